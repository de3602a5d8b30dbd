def Rel (Z : th_Zt) (τ : th_t) (gi : th_i) (gr : th_r) (gm : th_i) (rm : th_r) (A : Nat → Nat) : Prop := ro_C τ gr A ∧ ro_M τ rm A ∧ c_eq 1 6 8 gi gm A ∧ c_eq 1 5 0 gi gm A ∧ c_boat τ gi gr gm A ∧ c_tid gi gm A ∧ c_buoy τ gi gr gm A ∧ c_sl τ gi gr A ∧ c_least gi A ∧ c_rep gi A ∧ c_eq 1 7 14 gi gm A ∧ c_way Z gm A ∧ c_wish τ gi gr gm A ∧ c_eq 11 9 20 gi gm A ∧ c_wnb gm A ∧ c_core τ gi gr gm A ∧ c_eq 11 8 23 gi gm A

set_option maxHeartbeats 2000000 in
theorem sim_buoy {Z : th_Zt} {τ τ1 : th_t} {gi gi1 gi2 : th_i} {gr gr1 gr2 : th_r} {A : Nat → Nat} {v1 v2 v3 v4 r1 r2 : Int32} {sz : Nat} (hJ : th_J τ gi gr) (hJ1 : th_J τ1 gi1 gr1) (hv : Rel Z τ gi gr gi gr A) (hw1 : th_Ext [105, 2000, 2600, 3600] τ gi gr sz sz τ1 gi1 gr1 ∧ (M_X11_buoy τ Z gi gr (A 11) v1 v2 v3 v4 r1 τ1 gi1 gr1)) (hw2 : th_Mod [1200, 4000, 4100, 4200, 4300, 4600, 5900] τ1 gi1 gr1 gi2 gr2 ∧ gr2 = gr1 ∧ (F_X12_buoy τ1 Z gi1 gr1 (A 12) v1 v2 v3 v4 = (r2, gi2))) : Rel Z τ1 gi2 gr2 gi2 gr2 A := by
  obtain ⟨hC, hQ, b_no, b_nb, b_boat, b_tid, b_buoy, b_sl, b_least, b_rep, b_win, b_way, b_wish, b_stay, b_wnb, b_core, b_rate⟩ := hv
  obtain rfl : gr1 = gr2 := (hw2.2.1).symm
  have hm : th_Mod [105, 2000, 2600, 3600] τ gi gr gi1 gr1 := hw1.1.2.2
  have hn0 : th_Mod [1200, 4000, 4100, 4200, 4300, 4600, 5900] τ1 gi1 gr1 gi2 gr1 := hw2.1
  have hn : th_Mod [1200, 4000, 4100, 4200, 4300, 4600, 5900] τ gi1 gr1 gi2 gr1 := fun b j hb hk => hn0 b j (by rw [(hw1.1.1) b hb]; exact hb) (by rw [(hw1.1.1) b hb]; exact hk)
  have hmn : th_Mod [105, 1200, 2000, 2600, 3600, 4000, 4100, 4200, 4300, 4600, 5900] τ gi gr gi2 gr1 := hm.tr hn (th_sub rfl) (th_sub rfl)
  have hQ1 : ro_M τ gr1 A := hQ.mod hm (rm_okE (by decide +kernel))
  have hC1 : ro_C τ gr1 A := hC.mod hm (rc_okE (by decide +kernel))
  have hC2 : ro_C τ gr1 A := hC.mod hmn (rc_okE (by decide +kernel))
  have hQ2 : ro_M τ gr1 A := hQ.mod hmn (rm_okE (by decide +kernel))
  have hQ1a := hQ1
  have hQ1 := hQ1.ext (hw1.1.1) rm_ok
  have hC1x := hC1.ext (hw1.1.1) rc_ok
  have hQ2x := hQ2.ext (hw1.1.1) rm_ok
  have e1 := hw1.2
  have e2 := hw2.2.2
  have ic_no : c_eq 1 6 8 gi gi1 A := (c_eq.fr (th_mem rfl) rfl hC hQ (th_Mod.rf (M := [])) hm (th_nz rfl) (th_nm rfl) (th_nm rfl) b_no)
  have ic_nb : c_eq 1 5 0 gi gi1 A := (c_eq.fr (th_mem rfl) rfl hC hQ (th_Mod.rf (M := [])) hm (th_nz rfl) (th_nm rfl) (th_nm rfl) b_nb)
  have ic_boat : c_boat τ gi gr gi1 A := (c_boat.fr hC hQ (th_Mod.rf (M := [])) hm (th_dj rfl) (th_dj rfl) b_boat)
  have ic_tid : c_tid gi gi1 A := (c_tid.fr hC hQ (th_Mod.rf (M := [])) hm (by decide) (by decide) b_tid)
  have ic_buoy : c_buoy τ gi gr gi1 A := (c_buoy.fr hC hQ (th_Mod.rf (M := [])) hm (th_dj rfl) (th_dj rfl) b_buoy)
  have ic_sl : c_sl τ gi gr A := (c_sl.fr hC (th_Mod.rf (M := [])) (th_dj rfl) b_sl)
  have ic_least : c_least gi A := (c_least.fr hC (th_Mod.rf (M := [])) (th_dj rfl) b_least)
  have ic_rep : c_rep gi A := (c_rep.fr hC (th_Mod.rf (M := [])) (th_dj rfl) b_rep)
  have ic_win : c_eq 1 7 14 gi gi1 A := (c_eq.fr (th_mem rfl) rfl hC hQ (th_Mod.rf (M := [])) hm (th_nz rfl) (th_nm rfl) (th_nm rfl) b_win)
  have ic_way : c_way Z gi1 A := (c_way.fr hQ hm (th_dj rfl) b_way)
  have ic_wish : c_wish τ gi gr gi1 A := (c_wish.fr hC hQ (th_Mod.rf (M := [])) hm (th_dj rfl) (th_dj rfl) b_wish)
  have ic_stay : c_eq 11 9 20 gi gi1 A := (c_eq.fr (th_mem rfl) rfl hC hQ (th_Mod.rf (M := [])) hm (th_nz rfl) (th_nm rfl) (th_nm rfl) b_stay)
  have ic_wnb : c_wnb gi1 A := (c_wnb.fr hQ hm (th_dj rfl) b_wnb)
  have ic_core : c_core τ gi gr gi1 A := (c_core.fr hC hQ (th_Mod.rf (M := [])) hm (th_dj rfl) (th_dj rfl) b_core)
  have ic_rate : c_eq 11 8 23 gi gi1 A := (c_eq.fr (th_mem rfl) rfl hC hQ (th_Mod.rf (M := [])) hm (th_nz rfl) (th_nm rfl) (th_nm rfl) b_rate)
  have z_no : c_eq 1 6 8 gi2 gi2 A := (c_eq.fr (th_mem rfl) rfl hC hQ hmn hmn (th_nz rfl) (th_nm rfl) (th_nm rfl) b_no)
  have d_nb : c_eq 1 5 0 gi1 gi2 A := (s_buoy hJ hC hQ1 ic_nb e1 e2).2
  have z_nb : c_eq 1 5 0 gi2 gi2 A := (c_eq.fr (th_mem rfl) rfl hC1x hQ2x hn0 (th_Mod.rf (M := [])) (th_nz rfl) (th_nm rfl) (th_nm rfl) d_nb)
  have z_boat : c_boat τ gi2 gr1 gi2 A := (c_boat.fr hC hQ hmn hmn (th_dj rfl) (th_dj rfl) b_boat)
  have z_boat : c_boat τ1 gi2 gr1 gi2 A := c_boat.ext (hw1.1.1) z_boat
  have z_tid : c_tid gi2 gi2 A := (c_tid.fr hC hQ hmn hmn (by decide) (by decide) b_tid)
  have d_buoy : c_buoy τ1 gi1 gr1 gi2 A := ((bu_cases hJ hC hQ1 ic_nb (t_rg hJ1 hQ1 ic_tid) e1 e2).2.elim (fun f => c_buoy.fin hC hQ1 f ic_buoy) (fun k => c_buoy.buoy hJ hC ic_nb ic_buoy k))
  have z_buoy : c_buoy τ1 gi2 gr1 gi2 A := (c_buoy.fr hC1x hQ2x hn0 (th_Mod.rf (M := [])) (th_dj rfl) (th_dj rfl) d_buoy)
  have d_sl : c_sl τ1 gi1 gr1 A := ((bu_cases hJ hC hQ1 ic_nb (t_rg hJ1 hQ1 ic_tid) e1 e2).2.elim (fun f => c_sl.fin hC f ic_sl) (fun k => c_sl.buoy hJ hC ic_sl k))
  have z_sl : c_sl τ1 gi2 gr1 A := (c_sl.fr hC1x hn0 (th_dj rfl) d_sl)
  have z_least : c_least gi2 A := (c_least.fr hC hmn (th_dj rfl) b_least)
  have z_rep : c_rep gi2 A := (c_rep.fr hC hmn (th_dj rfl) b_rep)
  have z_win : c_eq 1 7 14 gi2 gi2 A := (c_eq.fr (th_mem rfl) rfl hC hQ hmn hmn (th_nz rfl) (th_nm rfl) (th_nm rfl) b_win)
  have z_way : c_way Z gi2 A := (c_way.fr hQ hmn (th_dj rfl) b_way)
  have z_wish : c_wish τ gi2 gr1 gi2 A := (c_wish.fr hC hQ hmn hmn (th_dj rfl) (th_dj rfl) b_wish)
  have z_wish : c_wish τ1 gi2 gr1 gi2 A := c_wish.ext (hw1.1.1) z_wish
  have z_stay : c_eq 11 9 20 gi2 gi2 A := (c_eq.fr (th_mem rfl) rfl hC hQ hmn hmn (th_nz rfl) (th_nm rfl) (th_nm rfl) b_stay)
  have d_wnb : c_wnb gi2 A := ((bu_cases hJ hC hQ1 ic_nb (t_rg hJ1 hQ1 ic_tid) e1 e2).2.elim (fun f => c_wnb.fin hQ1 f ic_wnb) (fun k => c_wnb.buoy hJ hC hQ1a ic_nb ic_wnb k))
  have z_wnb : c_wnb gi2 A := (c_wnb.fr hQ2x (th_Mod.rf (M := [])) (th_dj rfl) d_wnb)
  have d_core : c_core τ1 gi1 gr1 gi2 A := ((bu_cases hJ hC hQ1 ic_nb (t_rg hJ1 hQ1 ic_tid) e1 e2).2.elim (fun f => c_core.fin hC hQ1 f ic_core) (fun k => c_core.buoy hJ hC hQ1a ic_nb ic_core k))
  have z_core : c_core τ1 gi2 gr1 gi2 A := (c_core.fr hC1x hQ2x hn0 (th_Mod.rf (M := [])) (th_dj rfl) (th_dj rfl) d_core)
  have z_rate : c_eq 11 8 23 gi2 gi2 A := (c_eq.fr (th_mem rfl) rfl hC hQ hmn hmn (th_nz rfl) (th_nm rfl) (th_nm rfl) b_rate)
  exact ⟨hC2.ext (hw1.1.1) rc_ok, hQ2.ext (hw1.1.1) rm_ok, z_no, z_nb, z_boat, z_tid, z_buoy, z_sl, z_least, z_rep, z_win, z_way, z_wish, z_stay, z_wnb, z_core, z_rate⟩

set_option maxHeartbeats 2000000 in
theorem sim_boat {Z : th_Zt} {τ τ1 : th_t} {gi gi1 gi2 : th_i} {gr gr1 gr2 : th_r} {A : Nat → Nat} {v1 v2 v3 r1 r2 : Int32} {sz : Nat} (hJ : th_J τ gi gr) (hJ1 : th_J τ1 gi1 gr1) (hv : Rel Z τ gi gr gi gr A) (hw1 : th_Ext [106, 2100, 3600] τ gi gr sz sz τ1 gi1 gr1 ∧ (M_X11_boat τ Z gi gr (A 11) v1 v2 v3 r1 τ1 gi1 gr1)) (hw2 : th_Mod [1208, 4700, 4800, 4900, 5000, 5900] τ1 gi1 gr1 gi2 gr2 ∧ gr2 = gr1 ∧ (F_X12_boat τ1 Z gi1 gr1 (A 12) v1 v2 v3 = (r2, gi2))) : Rel Z τ1 gi2 gr2 gi2 gr2 A := by
  obtain ⟨hC, hQ, b_no, b_nb, b_boat, b_tid, b_buoy, b_sl, b_least, b_rep, b_win, b_way, b_wish, b_stay, b_wnb, b_core, b_rate⟩ := hv
  obtain rfl : gr1 = gr2 := (hw2.2.1).symm
  have hm : th_Mod [106, 2100, 3600] τ gi gr gi1 gr1 := hw1.1.2.2
  have hn0 : th_Mod [1208, 4700, 4800, 4900, 5000, 5900] τ1 gi1 gr1 gi2 gr1 := hw2.1
  have hn : th_Mod [1208, 4700, 4800, 4900, 5000, 5900] τ gi1 gr1 gi2 gr1 := fun b j hb hk => hn0 b j (by rw [(hw1.1.1) b hb]; exact hb) (by rw [(hw1.1.1) b hb]; exact hk)
  have hmn : th_Mod [106, 1208, 2100, 3600, 4700, 4800, 4900, 5000, 5900] τ gi gr gi2 gr1 := hm.tr hn (th_sub rfl) (th_sub rfl)
  have hQ1 : ro_M τ gr1 A := hQ.mod hm (rm_okE (by decide +kernel))
  have hC1 : ro_C τ gr1 A := hC.mod hm (rc_okE (by decide +kernel))
  have hC2 : ro_C τ gr1 A := hC.mod hmn (rc_okE (by decide +kernel))
  have hQ2 : ro_M τ gr1 A := hQ.mod hmn (rm_okE (by decide +kernel))
  have hQ1a := hQ1
  have hQ1 := hQ1.ext (hw1.1.1) rm_ok
  have hC1x := hC1.ext (hw1.1.1) rc_ok
  have hQ2x := hQ2.ext (hw1.1.1) rm_ok
  have e1 := hw1.2
  have e2 := hw2.2.2
  have ic_no : c_eq 1 6 8 gi gi1 A := (c_eq.fr (th_mem rfl) rfl hC hQ (th_Mod.rf (M := [])) hm (th_nz rfl) (th_nm rfl) (th_nm rfl) b_no)
  have ic_nb : c_eq 1 5 0 gi gi1 A := (c_eq.fr (th_mem rfl) rfl hC hQ (th_Mod.rf (M := [])) hm (th_nz rfl) (th_nm rfl) (th_nm rfl) b_nb)
  have ic_boat : c_boat τ gi gr gi1 A := (c_boat.fr hC hQ (th_Mod.rf (M := [])) hm (th_dj rfl) (th_dj rfl) b_boat)
  have ic_tid : c_tid gi gi1 A := (c_tid.fr hC hQ (th_Mod.rf (M := [])) hm (by decide) (by decide) b_tid)
  have ic_buoy : c_buoy τ gi gr gi1 A := (c_buoy.fr hC hQ (th_Mod.rf (M := [])) hm (th_dj rfl) (th_dj rfl) b_buoy)
  have ic_sl : c_sl τ gi gr A := (c_sl.fr hC (th_Mod.rf (M := [])) (th_dj rfl) b_sl)
  have ic_least : c_least gi A := (c_least.fr hC (th_Mod.rf (M := [])) (th_dj rfl) b_least)
  have ic_rep : c_rep gi A := (c_rep.fr hC (th_Mod.rf (M := [])) (th_dj rfl) b_rep)
  have ic_win : c_eq 1 7 14 gi gi1 A := (c_eq.fr (th_mem rfl) rfl hC hQ (th_Mod.rf (M := [])) hm (th_nz rfl) (th_nm rfl) (th_nm rfl) b_win)
  have ic_way : c_way Z gi1 A := (c_way.fr hQ hm (th_dj rfl) b_way)
  have ic_wish : c_wish τ gi gr gi1 A := (c_wish.fr hC hQ (th_Mod.rf (M := [])) hm (th_dj rfl) (th_dj rfl) b_wish)
  have ic_stay : c_eq 11 9 20 gi gi1 A := (c_eq.fr (th_mem rfl) rfl hC hQ (th_Mod.rf (M := [])) hm (th_nz rfl) (th_nm rfl) (th_nm rfl) b_stay)
  have ic_wnb : c_wnb gi1 A := (c_wnb.fr hQ hm (th_dj rfl) b_wnb)
  have ic_core : c_core τ gi gr gi1 A := (c_core.fr hC hQ (th_Mod.rf (M := [])) hm (th_dj rfl) (th_dj rfl) b_core)
  have ic_rate : c_eq 11 8 23 gi gi1 A := (c_eq.fr (th_mem rfl) rfl hC hQ (th_Mod.rf (M := [])) hm (th_nz rfl) (th_nm rfl) (th_nm rfl) b_rate)
  have d_no : c_eq 1 6 8 gi1 gi2 A := (s_boat hJ hC hQ1 ic_no e1 e2).2
  have z_no : c_eq 1 6 8 gi2 gi2 A := (c_eq.fr (th_mem rfl) rfl hC1x hQ2x hn0 (th_Mod.rf (M := [])) (th_nz rfl) (th_nm rfl) (th_nm rfl) d_no)
  have z_nb : c_eq 1 5 0 gi2 gi2 A := (c_eq.fr (th_mem rfl) rfl hC hQ hmn hmn (th_nz rfl) (th_nm rfl) (th_nm rfl) b_nb)
  have d_boat : c_boat τ1 gi1 gr1 gi2 A := ((bt_cases hJ hC hQ1 ic_no e1 e2).2.elim (fun f => c_boat.fin hC hQ1 f ic_boat) (fun k => c_boat.boat hJ hC ic_no ic_boat k))
  have z_boat : c_boat τ1 gi2 gr1 gi2 A := (c_boat.fr hC1x hQ2x hn0 (th_Mod.rf (M := [])) (th_dj rfl) (th_dj rfl) d_boat)
  have z_tid : c_tid gi2 gi2 A := (c_tid.fr hC hQ hmn hmn (by decide) (by decide) b_tid)
  have z_buoy : c_buoy τ gi2 gr1 gi2 A := (c_buoy.fr hC hQ hmn hmn (th_dj rfl) (th_dj rfl) b_buoy)
  have z_buoy : c_buoy τ1 gi2 gr1 gi2 A := c_buoy.ext (hw1.1.1) z_buoy
  have z_sl : c_sl τ gi2 gr1 A := (c_sl.fr hC hmn (th_dj rfl) b_sl)
  have z_sl : c_sl τ1 gi2 gr1 A := c_sl.ext (hw1.1.1) z_sl
  have z_least : c_least gi2 A := (c_least.fr hC hmn (th_dj rfl) b_least)
  have z_rep : c_rep gi2 A := (c_rep.fr hC hmn (th_dj rfl) b_rep)
  have z_win : c_eq 1 7 14 gi2 gi2 A := (c_eq.fr (th_mem rfl) rfl hC hQ hmn hmn (th_nz rfl) (th_nm rfl) (th_nm rfl) b_win)
  have z_way : c_way Z gi2 A := (c_way.fr hQ hmn (th_dj rfl) b_way)
  have d_wish : c_wish τ1 gi1 gr1 gi2 A := ((bt_cases hJ hC hQ1 ic_no e1 e2).2.elim (fun f => c_wish.fin hC hQ1 f ic_wish) (fun k => c_wish.boat hJ hC hQ1a ic_no ic_boat ic_wish k))
  have z_wish : c_wish τ1 gi2 gr1 gi2 A := (c_wish.fr hC1x hQ2x hn0 (th_Mod.rf (M := [])) (th_dj rfl) (th_dj rfl) d_wish)
  have z_stay : c_eq 11 9 20 gi2 gi2 A := (c_eq.fr (th_mem rfl) rfl hC hQ hmn hmn (th_nz rfl) (th_nm rfl) (th_nm rfl) b_stay)
  have z_wnb : c_wnb gi2 A := (c_wnb.fr hQ hmn (th_dj rfl) b_wnb)
  have d_core : c_core τ1 gi1 gr1 gi2 A := ((bt_cases hJ hC hQ1 ic_no e1 e2).2.elim (fun f => c_core.fin hC hQ1 f ic_core) (fun k => c_core.boat hJ hC hQ1a ic_no ic_boat ic_core k))
  have z_core : c_core τ1 gi2 gr1 gi2 A := (c_core.fr hC1x hQ2x hn0 (th_Mod.rf (M := [])) (th_dj rfl) (th_dj rfl) d_core)
  have z_rate : c_eq 11 8 23 gi2 gi2 A := (c_eq.fr (th_mem rfl) rfl hC hQ hmn hmn (th_nz rfl) (th_nm rfl) (th_nm rfl) b_rate)
  exact ⟨hC2.ext (hw1.1.1) rc_ok, hQ2.ext (hw1.1.1) rm_ok, z_no, z_nb, z_boat, z_tid, z_buoy, z_sl, z_least, z_rep, z_win, z_way, z_wish, z_stay, z_wnb, z_core, z_rate⟩

set_option maxHeartbeats 2000000 in
theorem sim_as {Z : th_Zt} {τ : th_t} {gi gi1 gi2 : th_i} {gr gr1 gr2 : th_r} {A : Nat → Nat} {v1 v2 r1 r2 : Int32} (hJ : th_J τ gi gr) (hJ1 : th_J τ gi1 gr1) (hv : Rel Z τ gi gr gi gr A) (hw1 : th_Mod [3600] τ gi gr gi1 gr1 ∧ gr1 = gr ∧ (F_X11_as τ Z gi gr (A 11) v1 v2 = (r1, gi1))) (hw2 : th_Mod [5900] τ gi1 gr1 gi2 gr2 ∧ gr2 = gr1 ∧ (F_X12_as τ Z gi1 gr1 (A 12) v1 v2 = (r2, gi2))) : Rel Z τ gi2 gr2 gi2 gr2 A := by
  obtain ⟨hC, hQ, b_no, b_nb, b_boat, b_tid, b_buoy, b_sl, b_least, b_rep, b_win, b_way, b_wish, b_stay, b_wnb, b_core, b_rate⟩ := hv
  obtain rfl : gr = gr1 := (hw1.2.1).symm
  obtain rfl : gr = gr2 := (hw2.2.1).symm
  have hm : th_Mod [3600] τ gi gr gi1 gr := hw1.1
  have hn0 : th_Mod [5900] τ gi1 gr gi2 gr := hw2.1
  have hn := hn0
  have hmn : th_Mod [3600, 5900] τ gi gr gi2 gr := hm.tr hn (th_sub rfl) (th_sub rfl)
  have hQ1 : ro_M τ gr A := hQ.mod hm (rm_okE (by decide +kernel))
  have hC1 : ro_C τ gr A := hC.mod hm (rc_okE (by decide +kernel))
  have hC2 : ro_C τ gr A := hC.mod hmn (rc_okE (by decide +kernel))
  have hQ2 : ro_M τ gr A := hQ.mod hmn (rm_okE (by decide +kernel))
  have e1 := hw1.2.2
  have e2 := hw2.2.2
  have z_no : c_eq 1 6 8 gi2 gi2 A := (c_eq.fr (th_mem rfl) rfl hC hQ hmn hmn (th_nz rfl) (th_nm rfl) (th_nm rfl) b_no)
  have z_nb : c_eq 1 5 0 gi2 gi2 A := (c_eq.fr (th_mem rfl) rfl hC hQ hmn hmn (th_nz rfl) (th_nm rfl) (th_nm rfl) b_nb)
  have z_boat : c_boat τ gi2 gr gi2 A := (c_boat.fr hC hQ hmn hmn (th_dj rfl) (th_dj rfl) b_boat)
  have z_tid : c_tid gi2 gi2 A := (c_tid.fr hC hQ hmn hmn (by decide) (by decide) b_tid)
  have z_buoy : c_buoy τ gi2 gr gi2 A := (c_buoy.fr hC hQ hmn hmn (th_dj rfl) (th_dj rfl) b_buoy)
  have z_sl : c_sl τ gi2 gr A := (c_sl.fr hC hmn (th_dj rfl) b_sl)
  have z_least : c_least gi2 A := (c_least.fr hC hmn (th_dj rfl) b_least)
  have z_rep : c_rep gi2 A := (c_rep.fr hC hmn (th_dj rfl) b_rep)
  have z_win : c_eq 1 7 14 gi2 gi2 A := (c_eq.fr (th_mem rfl) rfl hC hQ hmn hmn (th_nz rfl) (th_nm rfl) (th_nm rfl) b_win)
  have z_way : c_way Z gi2 A := (c_way.fr hQ hmn (th_dj rfl) b_way)
  have z_wish : c_wish τ gi2 gr gi2 A := (c_wish.fr hC hQ hmn hmn (th_dj rfl) (th_dj rfl) b_wish)
  have z_stay : c_eq 11 9 20 gi2 gi2 A := (c_eq.fr (th_mem rfl) rfl hC hQ hmn hmn (th_nz rfl) (th_nm rfl) (th_nm rfl) b_stay)
  have z_wnb : c_wnb gi2 A := (c_wnb.fr hQ hmn (th_dj rfl) b_wnb)
  have z_core : c_core τ gi2 gr gi2 A := (c_core.fr hC hQ hmn hmn (th_dj rfl) (th_dj rfl) b_core)
  have z_rate : c_eq 11 8 23 gi2 gi2 A := (c_eq.fr (th_mem rfl) rfl hC hQ hmn hmn (th_nz rfl) (th_nm rfl) (th_nm rfl) b_rate)
  exact ⟨hC2, hQ2, z_no, z_nb, z_boat, z_tid, z_buoy, z_sl, z_least, z_rep, z_win, z_way, z_wish, z_stay, z_wnb, z_core, z_rate⟩

set_option maxHeartbeats 2000000 in
theorem sim_tide {Z : th_Zt} {τ : th_t} {gi gi1 gi2 : th_i} {gr gr1 gr2 : th_r} {A : Nat → Nat} {v1 v2 r1 r2 : Int32} (hJ : th_J τ gi gr) (hJ1 : th_J τ gi1 gr1) (hv : Rel Z τ gi gr gi gr A) (hw1 : th_Mod [108, 2200, 2300, 2600, 3600] τ gi gr gi1 gr1 ∧ gr1 = gr ∧ (F_X11_tide τ Z gi gr (A 11) v1 v2 = (r1, gi1))) (hw2 : th_Mod [5100, 5900] τ gi1 gr1 gi2 gr2 ∧ gr2 = gr1 ∧ (F_X12_tide τ Z gi1 gr1 (A 12) v1 v2 = (r2, gi2))) : Rel Z τ gi2 gr2 gi2 gr2 A := by
  obtain ⟨hC, hQ, b_no, b_nb, b_boat, b_tid, b_buoy, b_sl, b_least, b_rep, b_win, b_way, b_wish, b_stay, b_wnb, b_core, b_rate⟩ := hv
  obtain rfl : gr = gr1 := (hw1.2.1).symm
  obtain rfl : gr = gr2 := (hw2.2.1).symm
  have hm : th_Mod [108, 2200, 2300, 2600, 3600] τ gi gr gi1 gr := hw1.1
  have hn0 : th_Mod [5100, 5900] τ gi1 gr gi2 gr := hw2.1
  have hn := hn0
  have hmn : th_Mod [108, 2200, 2300, 2600, 3600, 5100, 5900] τ gi gr gi2 gr := hm.tr hn (th_sub rfl) (th_sub rfl)
  have hQ1 : ro_M τ gr A := hQ.mod hm (rm_okE (by decide +kernel))
  have hC1 : ro_C τ gr A := hC.mod hm (rc_okE (by decide +kernel))
  have hC2 : ro_C τ gr A := hC.mod hmn (rc_okE (by decide +kernel))
  have hQ2 : ro_M τ gr A := hQ.mod hmn (rm_okE (by decide +kernel))
  have e1 := hw1.2.2
  have e2 := hw2.2.2
  have ic_no : c_eq 1 6 8 gi gi1 A := (c_eq.fr (th_mem rfl) rfl hC hQ (th_Mod.rf (M := [])) hm (th_nz rfl) (th_nm rfl) (th_nm rfl) b_no)
  have ic_nb : c_eq 1 5 0 gi gi1 A := (c_eq.fr (th_mem rfl) rfl hC hQ (th_Mod.rf (M := [])) hm (th_nz rfl) (th_nm rfl) (th_nm rfl) b_nb)
  have ic_boat : c_boat τ gi gr gi1 A := (c_boat.fr hC hQ (th_Mod.rf (M := [])) hm (th_dj rfl) (th_dj rfl) b_boat)
  have ic_tid : c_tid gi gi1 A := (c_tid.fr hC hQ (th_Mod.rf (M := [])) hm (by decide) (by decide) b_tid)
  have ic_buoy : c_buoy τ gi gr gi1 A := (c_buoy.fr hC hQ (th_Mod.rf (M := [])) hm (th_dj rfl) (th_dj rfl) b_buoy)
  have ic_sl : c_sl τ gi gr A := (c_sl.fr hC (th_Mod.rf (M := [])) (th_dj rfl) b_sl)
  have ic_least : c_least gi A := (c_least.fr hC (th_Mod.rf (M := [])) (th_dj rfl) b_least)
  have ic_rep : c_rep gi A := (c_rep.fr hC (th_Mod.rf (M := [])) (th_dj rfl) b_rep)
  have ic_win : c_eq 1 7 14 gi gi1 A := (c_eq.fr (th_mem rfl) rfl hC hQ (th_Mod.rf (M := [])) hm (th_nz rfl) (th_nm rfl) (th_nm rfl) b_win)
  have ic_way : c_way Z gi1 A := (c_way.fr hQ hm (th_dj rfl) b_way)
  have ic_wish : c_wish τ gi gr gi1 A := (c_wish.fr hC hQ (th_Mod.rf (M := [])) hm (th_dj rfl) (th_dj rfl) b_wish)
  have ic_stay : c_eq 11 9 20 gi gi1 A := (c_eq.fr (th_mem rfl) rfl hC hQ (th_Mod.rf (M := [])) hm (th_nz rfl) (th_nm rfl) (th_nm rfl) b_stay)
  have ic_wnb : c_wnb gi1 A := (c_wnb.fr hQ hm (th_dj rfl) b_wnb)
  have ic_core : c_core τ gi gr gi1 A := (c_core.fr hC hQ (th_Mod.rf (M := [])) hm (th_dj rfl) (th_dj rfl) b_core)
  have ic_rate : c_eq 11 8 23 gi gi1 A := (c_eq.fr (th_mem rfl) rfl hC hQ (th_Mod.rf (M := [])) hm (th_nz rfl) (th_nm rfl) (th_nm rfl) b_rate)
  have z_no : c_eq 1 6 8 gi2 gi2 A := (c_eq.fr (th_mem rfl) rfl hC hQ hmn hmn (th_nz rfl) (th_nm rfl) (th_nm rfl) b_no)
  have z_nb : c_eq 1 5 0 gi2 gi2 A := (c_eq.fr (th_mem rfl) rfl hC hQ hmn hmn (th_nz rfl) (th_nm rfl) (th_nm rfl) b_nb)
  have z_boat : c_boat τ gi2 gr gi2 A := (c_boat.fr hC hQ hmn hmn (th_dj rfl) (th_dj rfl) b_boat)
  have d_tid : c_tid gi1 gi2 A := (s_tide hJ hC hQ1 ic_tid e1 e2).2
  have z_tid : c_tid gi2 gi2 A := (c_tid.fr hC1 hQ2 hn0 (th_Mod.rf (M := [])) (by decide) (by decide) d_tid)
  have z_buoy : c_buoy τ gi2 gr gi2 A := (c_buoy.fr hC hQ hmn hmn (th_dj rfl) (th_dj rfl) b_buoy)
  have d_sl : c_sl τ gi1 gr A := (s_tideS hJ hC hm (by decide) ic_sl ic_least ic_rep e1).1
  have z_sl : c_sl τ gi2 gr A := (c_sl.fr hC1 hn0 (th_dj rfl) d_sl)
  have d_least : c_least gi1 A := (s_tideS hJ hC hm (by decide) ic_sl ic_least ic_rep e1).2.1
  have z_least : c_least gi2 A := (c_least.fr hC1 hn0 (th_dj rfl) d_least)
  have d_rep : c_rep gi1 A := (s_tideS hJ hC hm (by decide) ic_sl ic_least ic_rep e1).2.2
  have z_rep : c_rep gi2 A := (c_rep.fr hC1 hn0 (th_dj rfl) d_rep)
  have z_win : c_eq 1 7 14 gi2 gi2 A := (c_eq.fr (th_mem rfl) rfl hC hQ hmn hmn (th_nz rfl) (th_nm rfl) (th_nm rfl) b_win)
  have z_way : c_way Z gi2 A := (c_way.fr hQ hmn (th_dj rfl) b_way)
  have z_wish : c_wish τ gi2 gr gi2 A := (c_wish.fr hC hQ hmn hmn (th_dj rfl) (th_dj rfl) b_wish)
  have z_stay : c_eq 11 9 20 gi2 gi2 A := (c_eq.fr (th_mem rfl) rfl hC hQ hmn hmn (th_nz rfl) (th_nm rfl) (th_nm rfl) b_stay)
  have z_wnb : c_wnb gi2 A := (c_wnb.fr hQ hmn (th_dj rfl) b_wnb)
  have z_core : c_core τ gi2 gr gi2 A := (c_core.fr hC hQ hmn hmn (th_dj rfl) (th_dj rfl) b_core)
  have z_rate : c_eq 11 8 23 gi2 gi2 A := (c_eq.fr (th_mem rfl) rfl hC hQ hmn hmn (th_nz rfl) (th_nm rfl) (th_nm rfl) b_rate)
  exact ⟨hC2, hQ2, z_no, z_nb, z_boat, z_tid, z_buoy, z_sl, z_least, z_rep, z_win, z_way, z_wish, z_stay, z_wnb, z_core, z_rate⟩

set_option maxHeartbeats 2000000 in
theorem sim_winds {Z : th_Zt} {τ : th_t} {gi gi1 gi2 : th_i} {gr gr1 gr2 : th_r} {A : Nat → Nat} {v1 r1 r2 : Int32} (hJ : th_J τ gi gr) (hJ1 : th_J τ gi1 gr1) (hv : Rel Z τ gi gr gi gr A) (hw1 : th_Mod [107, 3600] τ gi gr gi1 gr1 ∧ gr1 = gr ∧ (F_X11_winds τ Z gi gr (A 11) v1 = (r1, gi1))) (hw2 : th_Mod [1214, 5900] τ gi1 gr1 gi2 gr2 ∧ gr2 = gr1 ∧ (F_X12_winds τ Z gi1 gr1 (A 12) v1 = (r2, gi2))) : Rel Z τ gi2 gr2 gi2 gr2 A := by
  obtain ⟨hC, hQ, b_no, b_nb, b_boat, b_tid, b_buoy, b_sl, b_least, b_rep, b_win, b_way, b_wish, b_stay, b_wnb, b_core, b_rate⟩ := hv
  obtain rfl : gr = gr1 := (hw1.2.1).symm
  obtain rfl : gr = gr2 := (hw2.2.1).symm
  have hm : th_Mod [107, 3600] τ gi gr gi1 gr := hw1.1
  have hn0 : th_Mod [1214, 5900] τ gi1 gr gi2 gr := hw2.1
  have hn := hn0
  have hmn : th_Mod [107, 1214, 3600, 5900] τ gi gr gi2 gr := hm.tr hn (th_sub rfl) (th_sub rfl)
  have hQ1 : ro_M τ gr A := hQ.mod hm (rm_okE (by decide +kernel))
  have hC1 : ro_C τ gr A := hC.mod hm (rc_okE (by decide +kernel))
  have hC2 : ro_C τ gr A := hC.mod hmn (rc_okE (by decide +kernel))
  have hQ2 : ro_M τ gr A := hQ.mod hmn (rm_okE (by decide +kernel))
  have e1 := hw1.2.2
  have e2 := hw2.2.2
  have ic_no : c_eq 1 6 8 gi gi1 A := (c_eq.fr (th_mem rfl) rfl hC hQ (th_Mod.rf (M := [])) hm (th_nz rfl) (th_nm rfl) (th_nm rfl) b_no)
  have ic_nb : c_eq 1 5 0 gi gi1 A := (c_eq.fr (th_mem rfl) rfl hC hQ (th_Mod.rf (M := [])) hm (th_nz rfl) (th_nm rfl) (th_nm rfl) b_nb)
  have ic_boat : c_boat τ gi gr gi1 A := (c_boat.fr hC hQ (th_Mod.rf (M := [])) hm (th_dj rfl) (th_dj rfl) b_boat)
  have ic_tid : c_tid gi gi1 A := (c_tid.fr hC hQ (th_Mod.rf (M := [])) hm (by decide) (by decide) b_tid)
  have ic_buoy : c_buoy τ gi gr gi1 A := (c_buoy.fr hC hQ (th_Mod.rf (M := [])) hm (th_dj rfl) (th_dj rfl) b_buoy)
  have ic_sl : c_sl τ gi gr A := (c_sl.fr hC (th_Mod.rf (M := [])) (th_dj rfl) b_sl)
  have ic_least : c_least gi A := (c_least.fr hC (th_Mod.rf (M := [])) (th_dj rfl) b_least)
  have ic_rep : c_rep gi A := (c_rep.fr hC (th_Mod.rf (M := [])) (th_dj rfl) b_rep)
  have ic_win : c_eq 1 7 14 gi gi1 A := (c_eq.fr (th_mem rfl) rfl hC hQ (th_Mod.rf (M := [])) hm (th_nz rfl) (th_nm rfl) (th_nm rfl) b_win)
  have ic_way : c_way Z gi1 A := (c_way.fr hQ hm (th_dj rfl) b_way)
  have ic_wish : c_wish τ gi gr gi1 A := (c_wish.fr hC hQ (th_Mod.rf (M := [])) hm (th_dj rfl) (th_dj rfl) b_wish)
  have ic_stay : c_eq 11 9 20 gi gi1 A := (c_eq.fr (th_mem rfl) rfl hC hQ (th_Mod.rf (M := [])) hm (th_nz rfl) (th_nm rfl) (th_nm rfl) b_stay)
  have ic_wnb : c_wnb gi1 A := (c_wnb.fr hQ hm (th_dj rfl) b_wnb)
  have ic_core : c_core τ gi gr gi1 A := (c_core.fr hC hQ (th_Mod.rf (M := [])) hm (th_dj rfl) (th_dj rfl) b_core)
  have ic_rate : c_eq 11 8 23 gi gi1 A := (c_eq.fr (th_mem rfl) rfl hC hQ (th_Mod.rf (M := [])) hm (th_nz rfl) (th_nm rfl) (th_nm rfl) b_rate)
  have z_no : c_eq 1 6 8 gi2 gi2 A := (c_eq.fr (th_mem rfl) rfl hC hQ hmn hmn (th_nz rfl) (th_nm rfl) (th_nm rfl) b_no)
  have z_nb : c_eq 1 5 0 gi2 gi2 A := (c_eq.fr (th_mem rfl) rfl hC hQ hmn hmn (th_nz rfl) (th_nm rfl) (th_nm rfl) b_nb)
  have z_boat : c_boat τ gi2 gr gi2 A := (c_boat.fr hC hQ hmn hmn (th_dj rfl) (th_dj rfl) b_boat)
  have z_tid : c_tid gi2 gi2 A := (c_tid.fr hC hQ hmn hmn (by decide) (by decide) b_tid)
  have z_buoy : c_buoy τ gi2 gr gi2 A := (c_buoy.fr hC hQ hmn hmn (th_dj rfl) (th_dj rfl) b_buoy)
  have z_sl : c_sl τ gi2 gr A := (c_sl.fr hC hmn (th_dj rfl) b_sl)
  have z_least : c_least gi2 A := (c_least.fr hC hmn (th_dj rfl) b_least)
  have z_rep : c_rep gi2 A := (c_rep.fr hC hmn (th_dj rfl) b_rep)
  have d_win : c_eq 1 7 14 gi1 gi2 A := (s_winds hC hQ1 ic_win e1 e2).2
  have z_win : c_eq 1 7 14 gi2 gi2 A := (c_eq.fr (th_mem rfl) rfl hC1 hQ2 hn0 (th_Mod.rf (M := [])) (th_nz rfl) (th_nm rfl) (th_nm rfl) d_win)
  have z_way : c_way Z gi2 A := (c_way.fr hQ hmn (th_dj rfl) b_way)
  have z_wish : c_wish τ gi2 gr gi2 A := (c_wish.fr hC hQ hmn hmn (th_dj rfl) (th_dj rfl) b_wish)
  have z_stay : c_eq 11 9 20 gi2 gi2 A := (c_eq.fr (th_mem rfl) rfl hC hQ hmn hmn (th_nz rfl) (th_nm rfl) (th_nm rfl) b_stay)
  have z_wnb : c_wnb gi2 A := (c_wnb.fr hQ hmn (th_dj rfl) b_wnb)
  have z_core : c_core τ gi2 gr gi2 A := (c_core.fr hC hQ hmn hmn (th_dj rfl) (th_dj rfl) b_core)
  have z_rate : c_eq 11 8 23 gi2 gi2 A := (c_eq.fr (th_mem rfl) rfl hC hQ hmn hmn (th_nz rfl) (th_nm rfl) (th_nm rfl) b_rate)
  exact ⟨hC2, hQ2, z_no, z_nb, z_boat, z_tid, z_buoy, z_sl, z_least, z_rep, z_win, z_way, z_wish, z_stay, z_wnb, z_core, z_rate⟩

set_option maxHeartbeats 2000000 in
theorem sim_about {Z : th_Zt} {τ : th_t} {gi gi1 gi2 : th_i} {gr gr1 gr2 : th_r} {A : Nat → Nat} {v1 v2 r1 r2 : Int32} (hJ : th_J τ gi gr) (hJ1 : th_J τ gi1 gr1) (hv : Rel Z τ gi gr gi gr A) (hw1 : th_Mod [3600] τ gi gr gi1 gr1 ∧ gr1 = gr ∧ (F_X11_about τ Z gi gr (A 11) v1 v2 = (r1, gi1))) (hw2 : th_Mod [5900] τ gi1 gr1 gi2 gr2 ∧ gr2 = gr1 ∧ (F_X12_about τ Z gi1 gr1 (A 12) v1 v2 = (r2, gi2))) : r1 = r2 ∧ Rel Z τ gi2 gr2 gi2 gr2 A := by
  obtain ⟨hC, hQ, b_no, b_nb, b_boat, b_tid, b_buoy, b_sl, b_least, b_rep, b_win, b_way, b_wish, b_stay, b_wnb, b_core, b_rate⟩ := hv
  obtain rfl : gr = gr1 := (hw1.2.1).symm
  obtain rfl : gr = gr2 := (hw2.2.1).symm
  have hm : th_Mod [3600] τ gi gr gi1 gr := hw1.1
  have hn0 : th_Mod [5900] τ gi1 gr gi2 gr := hw2.1
  have hn := hn0
  have hmn : th_Mod [3600, 5900] τ gi gr gi2 gr := hm.tr hn (th_sub rfl) (th_sub rfl)
  have hQ1 : ro_M τ gr A := hQ.mod hm (rm_okE (by decide +kernel))
  have hC1 : ro_C τ gr A := hC.mod hm (rc_okE (by decide +kernel))
  have hC2 : ro_C τ gr A := hC.mod hmn (rc_okE (by decide +kernel))
  have hQ2 : ro_M τ gr A := hQ.mod hmn (rm_okE (by decide +kernel))
  have e1 := hw1.2.2
  have e2 := hw2.2.2
  have ic_no : c_eq 1 6 8 gi gi1 A := (c_eq.fr (th_mem rfl) rfl hC hQ (th_Mod.rf (M := [])) hm (th_nz rfl) (th_nm rfl) (th_nm rfl) b_no)
  have ic_nb : c_eq 1 5 0 gi gi1 A := (c_eq.fr (th_mem rfl) rfl hC hQ (th_Mod.rf (M := [])) hm (th_nz rfl) (th_nm rfl) (th_nm rfl) b_nb)
  have ic_boat : c_boat τ gi gr gi1 A := (c_boat.fr hC hQ (th_Mod.rf (M := [])) hm (th_dj rfl) (th_dj rfl) b_boat)
  have ic_tid : c_tid gi gi1 A := (c_tid.fr hC hQ (th_Mod.rf (M := [])) hm (by decide) (by decide) b_tid)
  have ic_buoy : c_buoy τ gi gr gi1 A := (c_buoy.fr hC hQ (th_Mod.rf (M := [])) hm (th_dj rfl) (th_dj rfl) b_buoy)
  have ic_sl : c_sl τ gi gr A := (c_sl.fr hC (th_Mod.rf (M := [])) (th_dj rfl) b_sl)
  have ic_least : c_least gi A := (c_least.fr hC (th_Mod.rf (M := [])) (th_dj rfl) b_least)
  have ic_rep : c_rep gi A := (c_rep.fr hC (th_Mod.rf (M := [])) (th_dj rfl) b_rep)
  have ic_win : c_eq 1 7 14 gi gi1 A := (c_eq.fr (th_mem rfl) rfl hC hQ (th_Mod.rf (M := [])) hm (th_nz rfl) (th_nm rfl) (th_nm rfl) b_win)
  have ic_way : c_way Z gi1 A := (c_way.fr hQ hm (th_dj rfl) b_way)
  have ic_wish : c_wish τ gi gr gi1 A := (c_wish.fr hC hQ (th_Mod.rf (M := [])) hm (th_dj rfl) (th_dj rfl) b_wish)
  have ic_stay : c_eq 11 9 20 gi gi1 A := (c_eq.fr (th_mem rfl) rfl hC hQ (th_Mod.rf (M := [])) hm (th_nz rfl) (th_nm rfl) (th_nm rfl) b_stay)
  have ic_wnb : c_wnb gi1 A := (c_wnb.fr hQ hm (th_dj rfl) b_wnb)
  have ic_core : c_core τ gi gr gi1 A := (c_core.fr hC hQ (th_Mod.rf (M := [])) hm (th_dj rfl) (th_dj rfl) b_core)
  have ic_rate : c_eq 11 8 23 gi gi1 A := (c_eq.fr (th_mem rfl) rfl hC hQ (th_Mod.rf (M := [])) hm (th_nz rfl) (th_nm rfl) (th_nm rfl) b_rate)
  have z_no : c_eq 1 6 8 gi2 gi2 A := (c_eq.fr (th_mem rfl) rfl hC hQ hmn hmn (th_nz rfl) (th_nm rfl) (th_nm rfl) b_no)
  have z_nb : c_eq 1 5 0 gi2 gi2 A := (c_eq.fr (th_mem rfl) rfl hC hQ hmn hmn (th_nz rfl) (th_nm rfl) (th_nm rfl) b_nb)
  have z_boat : c_boat τ gi2 gr gi2 A := (c_boat.fr hC hQ hmn hmn (th_dj rfl) (th_dj rfl) b_boat)
  have z_tid : c_tid gi2 gi2 A := (c_tid.fr hC hQ hmn hmn (by decide) (by decide) b_tid)
  have z_buoy : c_buoy τ gi2 gr gi2 A := (c_buoy.fr hC hQ hmn hmn (th_dj rfl) (th_dj rfl) b_buoy)
  have z_sl : c_sl τ gi2 gr A := (c_sl.fr hC hmn (th_dj rfl) b_sl)
  have z_least : c_least gi2 A := (c_least.fr hC hmn (th_dj rfl) b_least)
  have z_rep : c_rep gi2 A := (c_rep.fr hC hmn (th_dj rfl) b_rep)
  have z_win : c_eq 1 7 14 gi2 gi2 A := (c_eq.fr (th_mem rfl) rfl hC hQ hmn hmn (th_nz rfl) (th_nm rfl) (th_nm rfl) b_win)
  have z_way : c_way Z gi2 A := (c_way.fr hQ hmn (th_dj rfl) b_way)
  have z_wish : c_wish τ gi2 gr gi2 A := (c_wish.fr hC hQ hmn hmn (th_dj rfl) (th_dj rfl) b_wish)
  have z_stay : c_eq 11 9 20 gi2 gi2 A := (c_eq.fr (th_mem rfl) rfl hC hQ hmn hmn (th_nz rfl) (th_nm rfl) (th_nm rfl) b_stay)
  have z_wnb : c_wnb gi2 A := (c_wnb.fr hQ hmn (th_dj rfl) b_wnb)
  have z_core : c_core τ gi2 gr gi2 A := (c_core.fr hC hQ hmn hmn (th_dj rfl) (th_dj rfl) b_core)
  have z_rate : c_eq 11 8 23 gi2 gi2 A := (c_eq.fr (th_mem rfl) rfl hC hQ hmn hmn (th_nz rfl) (th_nm rfl) (th_nm rfl) b_rate)
  exact ⟨(s_about ⟨hJ, hJ1, hC, hQ1, ic_no, ic_nb, ic_win, ic_boat, ic_buoy, ic_tid, ic_sl, ic_least, ic_rep, ic_way⟩ ic_rate ic_core e1 e2), hC2, hQ2, z_no, z_nb, z_boat, z_tid, z_buoy, z_sl, z_least, z_rep, z_win, z_way, z_wish, z_stay, z_wnb, z_core, z_rate⟩

set_option maxHeartbeats 2000000 in
theorem sim_of {Z : th_Zt} {τ : th_t} {gi gi1 gi2 : th_i} {gr gr1 gr2 : th_r} {A : Nat → Nat} {v1 v2 r1 r2 : Int32} (hJ : th_J τ gi gr) (hJ1 : th_J τ gi1 gr1) (hv : Rel Z τ gi gr gi gr A) (hw1 : th_Mod [3600] τ gi gr gi1 gr1 ∧ gr1 = gr ∧ (F_X11_of τ Z gi gr (A 11) v1 v2 = (r1, gi1))) (hw2 : th_Mod [5900] τ gi1 gr1 gi2 gr2 ∧ gr2 = gr1 ∧ (F_X12_of τ Z gi1 gr1 (A 12) v1 v2 = (r2, gi2))) : Rel Z τ gi2 gr2 gi2 gr2 A := by
  obtain ⟨hC, hQ, b_no, b_nb, b_boat, b_tid, b_buoy, b_sl, b_least, b_rep, b_win, b_way, b_wish, b_stay, b_wnb, b_core, b_rate⟩ := hv
  obtain rfl : gr = gr1 := (hw1.2.1).symm
  obtain rfl : gr = gr2 := (hw2.2.1).symm
  have hm : th_Mod [3600] τ gi gr gi1 gr := hw1.1
  have hn0 : th_Mod [5900] τ gi1 gr gi2 gr := hw2.1
  have hn := hn0
  have hmn : th_Mod [3600, 5900] τ gi gr gi2 gr := hm.tr hn (th_sub rfl) (th_sub rfl)
  have hQ1 : ro_M τ gr A := hQ.mod hm (rm_okE (by decide +kernel))
  have hC1 : ro_C τ gr A := hC.mod hm (rc_okE (by decide +kernel))
  have hC2 : ro_C τ gr A := hC.mod hmn (rc_okE (by decide +kernel))
  have hQ2 : ro_M τ gr A := hQ.mod hmn (rm_okE (by decide +kernel))
  have e1 := hw1.2.2
  have e2 := hw2.2.2
  have z_no : c_eq 1 6 8 gi2 gi2 A := (c_eq.fr (th_mem rfl) rfl hC hQ hmn hmn (th_nz rfl) (th_nm rfl) (th_nm rfl) b_no)
  have z_nb : c_eq 1 5 0 gi2 gi2 A := (c_eq.fr (th_mem rfl) rfl hC hQ hmn hmn (th_nz rfl) (th_nm rfl) (th_nm rfl) b_nb)
  have z_boat : c_boat τ gi2 gr gi2 A := (c_boat.fr hC hQ hmn hmn (th_dj rfl) (th_dj rfl) b_boat)
  have z_tid : c_tid gi2 gi2 A := (c_tid.fr hC hQ hmn hmn (by decide) (by decide) b_tid)
  have z_buoy : c_buoy τ gi2 gr gi2 A := (c_buoy.fr hC hQ hmn hmn (th_dj rfl) (th_dj rfl) b_buoy)
  have z_sl : c_sl τ gi2 gr A := (c_sl.fr hC hmn (th_dj rfl) b_sl)
  have z_least : c_least gi2 A := (c_least.fr hC hmn (th_dj rfl) b_least)
  have z_rep : c_rep gi2 A := (c_rep.fr hC hmn (th_dj rfl) b_rep)
  have z_win : c_eq 1 7 14 gi2 gi2 A := (c_eq.fr (th_mem rfl) rfl hC hQ hmn hmn (th_nz rfl) (th_nm rfl) (th_nm rfl) b_win)
  have z_way : c_way Z gi2 A := (c_way.fr hQ hmn (th_dj rfl) b_way)
  have z_wish : c_wish τ gi2 gr gi2 A := (c_wish.fr hC hQ hmn hmn (th_dj rfl) (th_dj rfl) b_wish)
  have z_stay : c_eq 11 9 20 gi2 gi2 A := (c_eq.fr (th_mem rfl) rfl hC hQ hmn hmn (th_nz rfl) (th_nm rfl) (th_nm rfl) b_stay)
  have z_wnb : c_wnb gi2 A := (c_wnb.fr hQ hmn (th_dj rfl) b_wnb)
  have z_core : c_core τ gi2 gr gi2 A := (c_core.fr hC hQ hmn hmn (th_dj rfl) (th_dj rfl) b_core)
  have z_rate : c_eq 11 8 23 gi2 gi2 A := (c_eq.fr (th_mem rfl) rfl hC hQ hmn hmn (th_nz rfl) (th_nm rfl) (th_nm rfl) b_rate)
  exact ⟨hC2, hQ2, z_no, z_nb, z_boat, z_tid, z_buoy, z_sl, z_least, z_rep, z_win, z_way, z_wish, z_stay, z_wnb, z_core, z_rate⟩

set_option maxHeartbeats 2000000 in
theorem sim_out {Z : th_Zt} {τ : th_t} {gi gi1 gi2 : th_i} {gr gr1 gr2 : th_r} {A : Nat → Nat} {v1 v2 v3 r1 r2 : Int32} (hJ : th_J τ gi gr) (hJ1 : th_J τ gi1 gr1) (hv : Rel Z τ gi gr gi gr A) (hw1 : th_Mod [3600] τ gi gr gi1 gr1 ∧ gr1 = gr ∧ (F_X11_out τ Z gi gr (A 11) v1 v2 v3 = (r1, gi1))) (hw2 : th_Mod [5900] τ gi1 gr1 gi2 gr2 ∧ gr2 = gr1 ∧ (F_X12_out τ Z gi1 gr1 (A 12) v1 v2 v3 = (r2, gi2))) : Rel Z τ gi2 gr2 gi2 gr2 A := by
  obtain ⟨hC, hQ, b_no, b_nb, b_boat, b_tid, b_buoy, b_sl, b_least, b_rep, b_win, b_way, b_wish, b_stay, b_wnb, b_core, b_rate⟩ := hv
  obtain rfl : gr = gr1 := (hw1.2.1).symm
  obtain rfl : gr = gr2 := (hw2.2.1).symm
  have hm : th_Mod [3600] τ gi gr gi1 gr := hw1.1
  have hn0 : th_Mod [5900] τ gi1 gr gi2 gr := hw2.1
  have hn := hn0
  have hmn : th_Mod [3600, 5900] τ gi gr gi2 gr := hm.tr hn (th_sub rfl) (th_sub rfl)
  have hQ1 : ro_M τ gr A := hQ.mod hm (rm_okE (by decide +kernel))
  have hC1 : ro_C τ gr A := hC.mod hm (rc_okE (by decide +kernel))
  have hC2 : ro_C τ gr A := hC.mod hmn (rc_okE (by decide +kernel))
  have hQ2 : ro_M τ gr A := hQ.mod hmn (rm_okE (by decide +kernel))
  have e1 := hw1.2.2
  have e2 := hw2.2.2
  have z_no : c_eq 1 6 8 gi2 gi2 A := (c_eq.fr (th_mem rfl) rfl hC hQ hmn hmn (th_nz rfl) (th_nm rfl) (th_nm rfl) b_no)
  have z_nb : c_eq 1 5 0 gi2 gi2 A := (c_eq.fr (th_mem rfl) rfl hC hQ hmn hmn (th_nz rfl) (th_nm rfl) (th_nm rfl) b_nb)
  have z_boat : c_boat τ gi2 gr gi2 A := (c_boat.fr hC hQ hmn hmn (th_dj rfl) (th_dj rfl) b_boat)
  have z_tid : c_tid gi2 gi2 A := (c_tid.fr hC hQ hmn hmn (by decide) (by decide) b_tid)
  have z_buoy : c_buoy τ gi2 gr gi2 A := (c_buoy.fr hC hQ hmn hmn (th_dj rfl) (th_dj rfl) b_buoy)
  have z_sl : c_sl τ gi2 gr A := (c_sl.fr hC hmn (th_dj rfl) b_sl)
  have z_least : c_least gi2 A := (c_least.fr hC hmn (th_dj rfl) b_least)
  have z_rep : c_rep gi2 A := (c_rep.fr hC hmn (th_dj rfl) b_rep)
  have z_win : c_eq 1 7 14 gi2 gi2 A := (c_eq.fr (th_mem rfl) rfl hC hQ hmn hmn (th_nz rfl) (th_nm rfl) (th_nm rfl) b_win)
  have z_way : c_way Z gi2 A := (c_way.fr hQ hmn (th_dj rfl) b_way)
  have z_wish : c_wish τ gi2 gr gi2 A := (c_wish.fr hC hQ hmn hmn (th_dj rfl) (th_dj rfl) b_wish)
  have z_stay : c_eq 11 9 20 gi2 gi2 A := (c_eq.fr (th_mem rfl) rfl hC hQ hmn hmn (th_nz rfl) (th_nm rfl) (th_nm rfl) b_stay)
  have z_wnb : c_wnb gi2 A := (c_wnb.fr hQ hmn (th_dj rfl) b_wnb)
  have z_core : c_core τ gi2 gr gi2 A := (c_core.fr hC hQ hmn hmn (th_dj rfl) (th_dj rfl) b_core)
  have z_rate : c_eq 11 8 23 gi2 gi2 A := (c_eq.fr (th_mem rfl) rfl hC hQ hmn hmn (th_nz rfl) (th_nm rfl) (th_nm rfl) b_rate)
  exact ⟨hC2, hQ2, z_no, z_nb, z_boat, z_tid, z_buoy, z_sl, z_least, z_rep, z_win, z_way, z_wish, z_stay, z_wnb, z_core, z_rate⟩

set_option maxHeartbeats 2000000 in
theorem sim_fits {Z : th_Zt} {τ : th_t} {gi gi1 gi2 : th_i} {gr gr1 gr2 : th_r} {A : Nat → Nat} {v1 v2 r1 r2 : Int32} (hJ : th_J τ gi gr) (hJ1 : th_J τ gi1 gr1) (hv : Rel Z τ gi gr gi gr A) (hw1 : th_Mod [3600] τ gi gr gi1 gr1 ∧ gr1 = gr ∧ (F_X11_fits τ Z gi gr (A 11) v1 v2 = (r1, gi1))) (hw2 : th_Mod [5900] τ gi1 gr1 gi2 gr2 ∧ gr2 = gr1 ∧ (F_X12_fits τ Z gi1 gr1 (A 12) v1 v2 = (r2, gi2))) : Rel Z τ gi2 gr2 gi2 gr2 A := by
  obtain ⟨hC, hQ, b_no, b_nb, b_boat, b_tid, b_buoy, b_sl, b_least, b_rep, b_win, b_way, b_wish, b_stay, b_wnb, b_core, b_rate⟩ := hv
  obtain rfl : gr = gr1 := (hw1.2.1).symm
  obtain rfl : gr = gr2 := (hw2.2.1).symm
  have hm : th_Mod [3600] τ gi gr gi1 gr := hw1.1
  have hn0 : th_Mod [5900] τ gi1 gr gi2 gr := hw2.1
  have hn := hn0
  have hmn : th_Mod [3600, 5900] τ gi gr gi2 gr := hm.tr hn (th_sub rfl) (th_sub rfl)
  have hQ1 : ro_M τ gr A := hQ.mod hm (rm_okE (by decide +kernel))
  have hC1 : ro_C τ gr A := hC.mod hm (rc_okE (by decide +kernel))
  have hC2 : ro_C τ gr A := hC.mod hmn (rc_okE (by decide +kernel))
  have hQ2 : ro_M τ gr A := hQ.mod hmn (rm_okE (by decide +kernel))
  have e1 := hw1.2.2
  have e2 := hw2.2.2
  have z_no : c_eq 1 6 8 gi2 gi2 A := (c_eq.fr (th_mem rfl) rfl hC hQ hmn hmn (th_nz rfl) (th_nm rfl) (th_nm rfl) b_no)
  have z_nb : c_eq 1 5 0 gi2 gi2 A := (c_eq.fr (th_mem rfl) rfl hC hQ hmn hmn (th_nz rfl) (th_nm rfl) (th_nm rfl) b_nb)
  have z_boat : c_boat τ gi2 gr gi2 A := (c_boat.fr hC hQ hmn hmn (th_dj rfl) (th_dj rfl) b_boat)
  have z_tid : c_tid gi2 gi2 A := (c_tid.fr hC hQ hmn hmn (by decide) (by decide) b_tid)
  have z_buoy : c_buoy τ gi2 gr gi2 A := (c_buoy.fr hC hQ hmn hmn (th_dj rfl) (th_dj rfl) b_buoy)
  have z_sl : c_sl τ gi2 gr A := (c_sl.fr hC hmn (th_dj rfl) b_sl)
  have z_least : c_least gi2 A := (c_least.fr hC hmn (th_dj rfl) b_least)
  have z_rep : c_rep gi2 A := (c_rep.fr hC hmn (th_dj rfl) b_rep)
  have z_win : c_eq 1 7 14 gi2 gi2 A := (c_eq.fr (th_mem rfl) rfl hC hQ hmn hmn (th_nz rfl) (th_nm rfl) (th_nm rfl) b_win)
  have z_way : c_way Z gi2 A := (c_way.fr hQ hmn (th_dj rfl) b_way)
  have z_wish : c_wish τ gi2 gr gi2 A := (c_wish.fr hC hQ hmn hmn (th_dj rfl) (th_dj rfl) b_wish)
  have z_stay : c_eq 11 9 20 gi2 gi2 A := (c_eq.fr (th_mem rfl) rfl hC hQ hmn hmn (th_nz rfl) (th_nm rfl) (th_nm rfl) b_stay)
  have z_wnb : c_wnb gi2 A := (c_wnb.fr hQ hmn (th_dj rfl) b_wnb)
  have z_core : c_core τ gi2 gr gi2 A := (c_core.fr hC hQ hmn hmn (th_dj rfl) (th_dj rfl) b_core)
  have z_rate : c_eq 11 8 23 gi2 gi2 A := (c_eq.fr (th_mem rfl) rfl hC hQ hmn hmn (th_nz rfl) (th_nm rfl) (th_nm rfl) b_rate)
  exact ⟨hC2, hQ2, z_no, z_nb, z_boat, z_tid, z_buoy, z_sl, z_least, z_rep, z_win, z_way, z_wish, z_stay, z_wnb, z_core, z_rate⟩

set_option maxHeartbeats 2000000 in
theorem sim_touch {Z : th_Zt} {τ : th_t} {gi gi1 gi2 : th_i} {gr gr1 gr2 : th_r} {A : Nat → Nat} {v1 v2 v3 v4 r1 r2 : Int32} (hJ : th_J τ gi gr) (hJ1 : th_J τ gi1 gr1) (hv : Rel Z τ gi gr gi gr A) (hw1 : th_Mod [3600] τ gi gr gi1 gr1 ∧ gr1 = gr ∧ (F_X11_touch τ Z gi gr (A 11) v1 v2 v3 v4 = (r1, gi1))) (hw2 : th_Mod [5900] τ gi1 gr1 gi2 gr2 ∧ gr2 = gr1 ∧ (F_X12_touch τ Z gi1 gr1 (A 12) v1 v2 v3 v4 = (r2, gi2))) : Rel Z τ gi2 gr2 gi2 gr2 A := by
  obtain ⟨hC, hQ, b_no, b_nb, b_boat, b_tid, b_buoy, b_sl, b_least, b_rep, b_win, b_way, b_wish, b_stay, b_wnb, b_core, b_rate⟩ := hv
  obtain rfl : gr = gr1 := (hw1.2.1).symm
  obtain rfl : gr = gr2 := (hw2.2.1).symm
  have hm : th_Mod [3600] τ gi gr gi1 gr := hw1.1
  have hn0 : th_Mod [5900] τ gi1 gr gi2 gr := hw2.1
  have hn := hn0
  have hmn : th_Mod [3600, 5900] τ gi gr gi2 gr := hm.tr hn (th_sub rfl) (th_sub rfl)
  have hQ1 : ro_M τ gr A := hQ.mod hm (rm_okE (by decide +kernel))
  have hC1 : ro_C τ gr A := hC.mod hm (rc_okE (by decide +kernel))
  have hC2 : ro_C τ gr A := hC.mod hmn (rc_okE (by decide +kernel))
  have hQ2 : ro_M τ gr A := hQ.mod hmn (rm_okE (by decide +kernel))
  have e1 := hw1.2.2
  have e2 := hw2.2.2
  have z_no : c_eq 1 6 8 gi2 gi2 A := (c_eq.fr (th_mem rfl) rfl hC hQ hmn hmn (th_nz rfl) (th_nm rfl) (th_nm rfl) b_no)
  have z_nb : c_eq 1 5 0 gi2 gi2 A := (c_eq.fr (th_mem rfl) rfl hC hQ hmn hmn (th_nz rfl) (th_nm rfl) (th_nm rfl) b_nb)
  have z_boat : c_boat τ gi2 gr gi2 A := (c_boat.fr hC hQ hmn hmn (th_dj rfl) (th_dj rfl) b_boat)
  have z_tid : c_tid gi2 gi2 A := (c_tid.fr hC hQ hmn hmn (by decide) (by decide) b_tid)
  have z_buoy : c_buoy τ gi2 gr gi2 A := (c_buoy.fr hC hQ hmn hmn (th_dj rfl) (th_dj rfl) b_buoy)
  have z_sl : c_sl τ gi2 gr A := (c_sl.fr hC hmn (th_dj rfl) b_sl)
  have z_least : c_least gi2 A := (c_least.fr hC hmn (th_dj rfl) b_least)
  have z_rep : c_rep gi2 A := (c_rep.fr hC hmn (th_dj rfl) b_rep)
  have z_win : c_eq 1 7 14 gi2 gi2 A := (c_eq.fr (th_mem rfl) rfl hC hQ hmn hmn (th_nz rfl) (th_nm rfl) (th_nm rfl) b_win)
  have z_way : c_way Z gi2 A := (c_way.fr hQ hmn (th_dj rfl) b_way)
  have z_wish : c_wish τ gi2 gr gi2 A := (c_wish.fr hC hQ hmn hmn (th_dj rfl) (th_dj rfl) b_wish)
  have z_stay : c_eq 11 9 20 gi2 gi2 A := (c_eq.fr (th_mem rfl) rfl hC hQ hmn hmn (th_nz rfl) (th_nm rfl) (th_nm rfl) b_stay)
  have z_wnb : c_wnb gi2 A := (c_wnb.fr hQ hmn (th_dj rfl) b_wnb)
  have z_core : c_core τ gi2 gr gi2 A := (c_core.fr hC hQ hmn hmn (th_dj rfl) (th_dj rfl) b_core)
  have z_rate : c_eq 11 8 23 gi2 gi2 A := (c_eq.fr (th_mem rfl) rfl hC hQ hmn hmn (th_nz rfl) (th_nm rfl) (th_nm rfl) b_rate)
  exact ⟨hC2, hQ2, z_no, z_nb, z_boat, z_tid, z_buoy, z_sl, z_least, z_rep, z_win, z_way, z_wish, z_stay, z_wnb, z_core, z_rate⟩

set_option maxHeartbeats 2000000 in
theorem sim_moor {Z : th_Zt} {τ : th_t} {gi gi1 gi2 : th_i} {gr gr1 gr2 : th_r} {A : Nat → Nat} {v1 v2 r1 r2 : Int32} (hJ : th_J τ gi gr) (hJ1 : th_J τ gi1 gr1) (hv : Rel Z τ gi gr gi gr A) (hw1 : th_Mod [1002, 2400, 2500, 3500, 3600] τ gi gr gi1 gr1 ∧ gr1 = gr ∧ (F_X11_moor τ Z gi gr (A 11) v1 v2 = (r1, gi1))) (hw2 : th_Mod [1217, 4600, 5000, 5400, 5900] τ gi1 gr1 gi2 gr2 ∧ gr2 = gr1 ∧ (F_X12_moor τ Z gi1 gr1 (A 12) v1 v2 = (r2, gi2))) : Rel Z τ gi2 gr2 gi2 gr2 A := by
  obtain ⟨hC, hQ, b_no, b_nb, b_boat, b_tid, b_buoy, b_sl, b_least, b_rep, b_win, b_way, b_wish, b_stay, b_wnb, b_core, b_rate⟩ := hv
  obtain rfl : gr = gr1 := (hw1.2.1).symm
  obtain rfl : gr = gr2 := (hw2.2.1).symm
  have hm : th_Mod [1002, 2400, 2500, 3500, 3600] τ gi gr gi1 gr := hw1.1
  have hn0 : th_Mod [1217, 4600, 5000, 5400, 5900] τ gi1 gr gi2 gr := hw2.1
  have hn := hn0
  have hmn : th_Mod [1002, 1217, 2400, 2500, 3500, 3600, 4600, 5000, 5400, 5900] τ gi gr gi2 gr := hm.tr hn (th_sub rfl) (th_sub rfl)
  have hQ1 : ro_M τ gr A := hQ.mod hm (rm_okE (by decide +kernel))
  have hC1 : ro_C τ gr A := hC.mod hm (rc_okE (by decide +kernel))
  have hC2 : ro_C τ gr A := hC.mod hmn (rc_okE (by decide +kernel))
  have hQ2 : ro_M τ gr A := hQ.mod hmn (rm_okE (by decide +kernel))
  have e1 := hw1.2.2
  have e2 := hw2.2.2
  have ic_no : c_eq 1 6 8 gi gi1 A := (c_eq.fr (th_mem rfl) rfl hC hQ (th_Mod.rf (M := [])) hm (th_nz rfl) (th_nm rfl) (th_nm rfl) b_no)
  have ic_nb : c_eq 1 5 0 gi gi1 A := (c_eq.fr (th_mem rfl) rfl hC hQ (th_Mod.rf (M := [])) hm (th_nz rfl) (th_nm rfl) (th_nm rfl) b_nb)
  have ic_boat : c_boat τ gi gr gi1 A := (c_boat.fr hC hQ (th_Mod.rf (M := [])) hm (th_dj rfl) (th_dj rfl) b_boat)
  have ic_tid : c_tid gi gi1 A := (c_tid.fr hC hQ (th_Mod.rf (M := [])) hm (by decide) (by decide) b_tid)
  have ic_buoy : c_buoy τ gi gr gi1 A := (c_buoy.fr hC hQ (th_Mod.rf (M := [])) hm (th_dj rfl) (th_dj rfl) b_buoy)
  have ic_sl : c_sl τ gi gr A := (c_sl.fr hC (th_Mod.rf (M := [])) (th_dj rfl) b_sl)
  have ic_least : c_least gi A := (c_least.fr hC (th_Mod.rf (M := [])) (th_dj rfl) b_least)
  have ic_rep : c_rep gi A := (c_rep.fr hC (th_Mod.rf (M := [])) (th_dj rfl) b_rep)
  have ic_win : c_eq 1 7 14 gi gi1 A := (c_eq.fr (th_mem rfl) rfl hC hQ (th_Mod.rf (M := [])) hm (th_nz rfl) (th_nm rfl) (th_nm rfl) b_win)
  have ic_way : c_way Z gi1 A := (c_way.fr hQ hm (th_dj rfl) b_way)
  have ic_wish : c_wish τ gi gr gi1 A := (c_wish.fr hC hQ (th_Mod.rf (M := [])) hm (th_dj rfl) (th_dj rfl) b_wish)
  have ic_stay : c_eq 11 9 20 gi gi1 A := (c_eq.fr (th_mem rfl) rfl hC hQ (th_Mod.rf (M := [])) hm (th_nz rfl) (th_nm rfl) (th_nm rfl) b_stay)
  have ic_wnb : c_wnb gi1 A := (c_wnb.fr hQ hm (th_dj rfl) b_wnb)
  have ic_core : c_core τ gi gr gi1 A := (c_core.fr hC hQ (th_Mod.rf (M := [])) hm (th_dj rfl) (th_dj rfl) b_core)
  have ic_rate : c_eq 11 8 23 gi gi1 A := (c_eq.fr (th_mem rfl) rfl hC hQ (th_Mod.rf (M := [])) hm (th_nz rfl) (th_nm rfl) (th_nm rfl) b_rate)
  have z_no : c_eq 1 6 8 gi2 gi2 A := (c_eq.fr (th_mem rfl) rfl hC hQ hmn hmn (th_nz rfl) (th_nm rfl) (th_nm rfl) b_no)
  have z_nb : c_eq 1 5 0 gi2 gi2 A := (c_eq.fr (th_mem rfl) rfl hC hQ hmn hmn (th_nz rfl) (th_nm rfl) (th_nm rfl) b_nb)
  have z_boat : c_boat τ gi2 gr gi2 A := (c_boat.fr hC hQ hmn hmn (th_dj rfl) (th_dj rfl) b_boat)
  have z_tid : c_tid gi2 gi2 A := (c_tid.fr hC hQ hmn hmn (by decide) (by decide) b_tid)
  have z_buoy : c_buoy τ gi2 gr gi2 A := (c_buoy.fr hC hQ hmn hmn (th_dj rfl) (th_dj rfl) b_buoy)
  have z_sl : c_sl τ gi2 gr A := (c_sl.fr hC hmn (th_dj rfl) b_sl)
  have z_least : c_least gi2 A := (c_least.fr hC hmn (th_dj rfl) b_least)
  have z_rep : c_rep gi2 A := (c_rep.fr hC hmn (th_dj rfl) b_rep)
  have z_win : c_eq 1 7 14 gi2 gi2 A := (c_eq.fr (th_mem rfl) rfl hC hQ hmn hmn (th_nz rfl) (th_nm rfl) (th_nm rfl) b_win)
  have z_way : c_way Z gi2 A := (c_way.fr hQ hmn (th_dj rfl) b_way)
  have z_wish : c_wish τ gi2 gr gi2 A := (c_wish.fr hC hQ hmn hmn (th_dj rfl) (th_dj rfl) b_wish)
  have z_stay : c_eq 11 9 20 gi2 gi2 A := (c_eq.fr (th_mem rfl) rfl hC hQ hmn hmn (th_nz rfl) (th_nm rfl) (th_nm rfl) b_stay)
  have z_wnb : c_wnb gi2 A := (c_wnb.fr hQ hmn (th_dj rfl) b_wnb)
  have d_core : c_core τ gi1 gr gi2 A := (s_moor ⟨hJ, hJ1, hC, hQ1, ic_no, ic_nb, ic_win, ic_boat, ic_buoy, ic_tid, ic_sl, ic_least, ic_rep, ic_way⟩ ic_core e1 e2).2
  have z_core : c_core τ gi2 gr gi2 A := (c_core.fr hC1 hQ2 hn0 (th_Mod.rf (M := [])) (th_dj rfl) (th_dj rfl) d_core)
  have z_rate : c_eq 11 8 23 gi2 gi2 A := (c_eq.fr (th_mem rfl) rfl hC hQ hmn hmn (th_nz rfl) (th_nm rfl) (th_nm rfl) b_rate)
  exact ⟨hC2, hQ2, z_no, z_nb, z_boat, z_tid, z_buoy, z_sl, z_least, z_rep, z_win, z_way, z_wish, z_stay, z_wnb, z_core, z_rate⟩

set_option maxHeartbeats 2000000 in
theorem sim_leave {Z : th_Zt} {τ : th_t} {gi gi1 gi2 : th_i} {gr gr1 gr2 : th_r} {A : Nat → Nat} {v1 r1 r2 : Int32} (hJ : th_J τ gi gr) (hJ1 : th_J τ gi1 gr1) (hv : Rel Z τ gi gr gi gr A) (hw1 : th_Mod [2400, 2500, 3600] τ gi gr gi1 gr1 ∧ gr1 = gr ∧ (F_X11_leave τ Z gi gr (A 11) v1 = (r1, gi1))) (hw2 : th_Mod [4600, 5000, 5900] τ gi1 gr1 gi2 gr2 ∧ gr2 = gr1 ∧ (F_X12_leave τ Z gi1 gr1 (A 12) v1 = (r2, gi2))) : Rel Z τ gi2 gr2 gi2 gr2 A := by
  obtain ⟨hC, hQ, b_no, b_nb, b_boat, b_tid, b_buoy, b_sl, b_least, b_rep, b_win, b_way, b_wish, b_stay, b_wnb, b_core, b_rate⟩ := hv
  obtain rfl : gr = gr1 := (hw1.2.1).symm
  obtain rfl : gr = gr2 := (hw2.2.1).symm
  have hm : th_Mod [2400, 2500, 3600] τ gi gr gi1 gr := hw1.1
  have hn0 : th_Mod [4600, 5000, 5900] τ gi1 gr gi2 gr := hw2.1
  have hn := hn0
  have hmn : th_Mod [2400, 2500, 3600, 4600, 5000, 5900] τ gi gr gi2 gr := hm.tr hn (th_sub rfl) (th_sub rfl)
  have hQ1 : ro_M τ gr A := hQ.mod hm (rm_okE (by decide +kernel))
  have hC1 : ro_C τ gr A := hC.mod hm (rc_okE (by decide +kernel))
  have hC2 : ro_C τ gr A := hC.mod hmn (rc_okE (by decide +kernel))
  have hQ2 : ro_M τ gr A := hQ.mod hmn (rm_okE (by decide +kernel))
  have e1 := hw1.2.2
  have e2 := hw2.2.2
  have ic_no : c_eq 1 6 8 gi gi1 A := (c_eq.fr (th_mem rfl) rfl hC hQ (th_Mod.rf (M := [])) hm (th_nz rfl) (th_nm rfl) (th_nm rfl) b_no)
  have ic_nb : c_eq 1 5 0 gi gi1 A := (c_eq.fr (th_mem rfl) rfl hC hQ (th_Mod.rf (M := [])) hm (th_nz rfl) (th_nm rfl) (th_nm rfl) b_nb)
  have ic_boat : c_boat τ gi gr gi1 A := (c_boat.fr hC hQ (th_Mod.rf (M := [])) hm (th_dj rfl) (th_dj rfl) b_boat)
  have ic_tid : c_tid gi gi1 A := (c_tid.fr hC hQ (th_Mod.rf (M := [])) hm (by decide) (by decide) b_tid)
  have ic_buoy : c_buoy τ gi gr gi1 A := (c_buoy.fr hC hQ (th_Mod.rf (M := [])) hm (th_dj rfl) (th_dj rfl) b_buoy)
  have ic_sl : c_sl τ gi gr A := (c_sl.fr hC (th_Mod.rf (M := [])) (th_dj rfl) b_sl)
  have ic_least : c_least gi A := (c_least.fr hC (th_Mod.rf (M := [])) (th_dj rfl) b_least)
  have ic_rep : c_rep gi A := (c_rep.fr hC (th_Mod.rf (M := [])) (th_dj rfl) b_rep)
  have ic_win : c_eq 1 7 14 gi gi1 A := (c_eq.fr (th_mem rfl) rfl hC hQ (th_Mod.rf (M := [])) hm (th_nz rfl) (th_nm rfl) (th_nm rfl) b_win)
  have ic_way : c_way Z gi1 A := (c_way.fr hQ hm (th_dj rfl) b_way)
  have ic_wish : c_wish τ gi gr gi1 A := (c_wish.fr hC hQ (th_Mod.rf (M := [])) hm (th_dj rfl) (th_dj rfl) b_wish)
  have ic_stay : c_eq 11 9 20 gi gi1 A := (c_eq.fr (th_mem rfl) rfl hC hQ (th_Mod.rf (M := [])) hm (th_nz rfl) (th_nm rfl) (th_nm rfl) b_stay)
  have ic_wnb : c_wnb gi1 A := (c_wnb.fr hQ hm (th_dj rfl) b_wnb)
  have ic_core : c_core τ gi gr gi1 A := (c_core.fr hC hQ (th_Mod.rf (M := [])) hm (th_dj rfl) (th_dj rfl) b_core)
  have ic_rate : c_eq 11 8 23 gi gi1 A := (c_eq.fr (th_mem rfl) rfl hC hQ (th_Mod.rf (M := [])) hm (th_nz rfl) (th_nm rfl) (th_nm rfl) b_rate)
  have z_no : c_eq 1 6 8 gi2 gi2 A := (c_eq.fr (th_mem rfl) rfl hC hQ hmn hmn (th_nz rfl) (th_nm rfl) (th_nm rfl) b_no)
  have z_nb : c_eq 1 5 0 gi2 gi2 A := (c_eq.fr (th_mem rfl) rfl hC hQ hmn hmn (th_nz rfl) (th_nm rfl) (th_nm rfl) b_nb)
  have z_boat : c_boat τ gi2 gr gi2 A := (c_boat.fr hC hQ hmn hmn (th_dj rfl) (th_dj rfl) b_boat)
  have z_tid : c_tid gi2 gi2 A := (c_tid.fr hC hQ hmn hmn (by decide) (by decide) b_tid)
  have z_buoy : c_buoy τ gi2 gr gi2 A := (c_buoy.fr hC hQ hmn hmn (th_dj rfl) (th_dj rfl) b_buoy)
  have z_sl : c_sl τ gi2 gr A := (c_sl.fr hC hmn (th_dj rfl) b_sl)
  have z_least : c_least gi2 A := (c_least.fr hC hmn (th_dj rfl) b_least)
  have z_rep : c_rep gi2 A := (c_rep.fr hC hmn (th_dj rfl) b_rep)
  have z_win : c_eq 1 7 14 gi2 gi2 A := (c_eq.fr (th_mem rfl) rfl hC hQ hmn hmn (th_nz rfl) (th_nm rfl) (th_nm rfl) b_win)
  have z_way : c_way Z gi2 A := (c_way.fr hQ hmn (th_dj rfl) b_way)
  have z_wish : c_wish τ gi2 gr gi2 A := (c_wish.fr hC hQ hmn hmn (th_dj rfl) (th_dj rfl) b_wish)
  have z_stay : c_eq 11 9 20 gi2 gi2 A := (c_eq.fr (th_mem rfl) rfl hC hQ hmn hmn (th_nz rfl) (th_nm rfl) (th_nm rfl) b_stay)
  have z_wnb : c_wnb gi2 A := (c_wnb.fr hQ hmn (th_dj rfl) b_wnb)
  have d_core : c_core τ gi1 gr gi2 A := (s_leave ⟨hJ, hJ1, hC, hQ1, ic_no, ic_nb, ic_win, ic_boat, ic_buoy, ic_tid, ic_sl, ic_least, ic_rep, ic_way⟩ ic_core e1 e2).2
  have z_core : c_core τ gi2 gr gi2 A := (c_core.fr hC1 hQ2 hn0 (th_Mod.rf (M := [])) (th_dj rfl) (th_dj rfl) d_core)
  have z_rate : c_eq 11 8 23 gi2 gi2 A := (c_eq.fr (th_mem rfl) rfl hC hQ hmn hmn (th_nz rfl) (th_nm rfl) (th_nm rfl) b_rate)
  exact ⟨hC2, hQ2, z_no, z_nb, z_boat, z_tid, z_buoy, z_sl, z_least, z_rep, z_win, z_way, z_wish, z_stay, z_wnb, z_core, z_rate⟩

set_option maxHeartbeats 2000000 in
theorem sim_most {Z : th_Zt} {τ : th_t} {gi gi1 gi2 : th_i} {gr gr1 gr2 : th_r} {A : Nat → Nat} {v1 v2 r1 r2 : Int32} (hJ : th_J τ gi gr) (hJ1 : th_J τ gi1 gr1) (hv : Rel Z τ gi gr gi gr A) (hw1 : th_Mod [702, 707, 3000, 3100, 3200, 3300, 3400, 3600] τ gi gr gi1 gr1 ∧ (F_X11_most τ Z gi gr (A 11) v1 v2 = (r1, gi1, gr1))) (hw2 : th_Mod [1227, 1233, 5900, 6000, 6100, 6200, 6300, 6400] τ gi1 gr1 gi2 gr2 ∧ gr2 = gr1 ∧ (F_X12_most τ Z gi1 gr1 (A 12) v1 v2 = (r2, gi2))) : Rel Z τ gi2 gr2 gi2 gr2 A := by
  obtain ⟨hC, hQ, b_no, b_nb, b_boat, b_tid, b_buoy, b_sl, b_least, b_rep, b_win, b_way, b_wish, b_stay, b_wnb, b_core, b_rate⟩ := hv
  obtain rfl : gr1 = gr2 := (hw2.2.1).symm
  have hm : th_Mod [702, 707, 3000, 3100, 3200, 3300, 3400, 3600] τ gi gr gi1 gr1 := hw1.1
  have hn0 : th_Mod [1227, 1233, 5900, 6000, 6100, 6200, 6300, 6400] τ gi1 gr1 gi2 gr1 := hw2.1
  have hn := hn0
  have hmn : th_Mod [702, 707, 1227, 1233, 3000, 3100, 3200, 3300, 3400, 3600, 5900, 6000, 6100, 6200, 6300, 6400] τ gi gr gi2 gr1 := hm.tr hn (th_sub rfl) (th_sub rfl)
  have hQ1 : ro_M τ gr1 A := hQ.mod hm (rm_okE (by decide +kernel))
  have hC1 : ro_C τ gr1 A := hC.mod hm (rc_okE (by decide +kernel))
  have hC2 : ro_C τ gr1 A := hC.mod hmn (rc_okE (by decide +kernel))
  have hQ2 : ro_M τ gr1 A := hQ.mod hmn (rm_okE (by decide +kernel))
  have e1 := hw1.2
  have e2 := hw2.2.2
  have z_no : c_eq 1 6 8 gi2 gi2 A := (c_eq.fr (th_mem rfl) rfl hC hQ hmn hmn (th_nz rfl) (th_nm rfl) (th_nm rfl) b_no)
  have z_nb : c_eq 1 5 0 gi2 gi2 A := (c_eq.fr (th_mem rfl) rfl hC hQ hmn hmn (th_nz rfl) (th_nm rfl) (th_nm rfl) b_nb)
  have z_boat : c_boat τ gi2 gr1 gi2 A := (c_boat.fr hC hQ hmn hmn (th_dj rfl) (th_dj rfl) b_boat)
  have z_tid : c_tid gi2 gi2 A := (c_tid.fr hC hQ hmn hmn (by decide) (by decide) b_tid)
  have z_buoy : c_buoy τ gi2 gr1 gi2 A := (c_buoy.fr hC hQ hmn hmn (th_dj rfl) (th_dj rfl) b_buoy)
  have z_sl : c_sl τ gi2 gr1 A := (c_sl.fr hC hmn (th_dj rfl) b_sl)
  have z_least : c_least gi2 A := (c_least.fr hC hmn (th_dj rfl) b_least)
  have z_rep : c_rep gi2 A := (c_rep.fr hC hmn (th_dj rfl) b_rep)
  have z_win : c_eq 1 7 14 gi2 gi2 A := (c_eq.fr (th_mem rfl) rfl hC hQ hmn hmn (th_nz rfl) (th_nm rfl) (th_nm rfl) b_win)
  have z_way : c_way Z gi2 A := (c_way.fr hQ hmn (th_dj rfl) b_way)
  have z_wish : c_wish τ gi2 gr1 gi2 A := (c_wish.fr hC hQ hmn hmn (th_dj rfl) (th_dj rfl) b_wish)
  have z_stay : c_eq 11 9 20 gi2 gi2 A := (c_eq.fr (th_mem rfl) rfl hC hQ hmn hmn (th_nz rfl) (th_nm rfl) (th_nm rfl) b_stay)
  have z_wnb : c_wnb gi2 A := (c_wnb.fr hQ hmn (th_dj rfl) b_wnb)
  have z_core : c_core τ gi2 gr1 gi2 A := (c_core.fr hC hQ hmn hmn (th_dj rfl) (th_dj rfl) b_core)
  have z_rate : c_eq 11 8 23 gi2 gi2 A := (c_eq.fr (th_mem rfl) rfl hC hQ hmn hmn (th_nz rfl) (th_nm rfl) (th_nm rfl) b_rate)
  exact ⟨hC2, hQ2, z_no, z_nb, z_boat, z_tid, z_buoy, z_sl, z_least, z_rep, z_win, z_way, z_wish, z_stay, z_wnb, z_core, z_rate⟩

set_option maxHeartbeats 2000000 in
theorem sim_wait {Z : th_Zt} {τ : th_t} {gi gi1 gi2 : th_i} {gr gr1 gr2 : th_r} {A : Nat → Nat} {v1 r1 r2 : Int32} (hJ : th_J τ gi gr) (hJ1 : th_J τ gi1 gr1) (hv : Rel Z τ gi gr gi gr A) (hw1 : th_Mod [405, 805, 905, 1002, 3500, 3600] τ gi gr gi1 gr1 ∧ gr1 = gr ∧ (F_X11_wait τ Z gi gr (A 11) v1 = (r1, gi1))) (hw2 : th_Mod [1217, 5400, 5500, 5900] τ gi1 gr1 gi2 gr2 ∧ gr2 = gr1 ∧ (F_X12_wait τ Z gi1 gr1 (A 12) v1 = (r2, gi2))) : Rel Z τ gi2 gr2 gi2 gr2 A := by
  obtain ⟨hC, hQ, b_no, b_nb, b_boat, b_tid, b_buoy, b_sl, b_least, b_rep, b_win, b_way, b_wish, b_stay, b_wnb, b_core, b_rate⟩ := hv
  obtain rfl : gr = gr1 := (hw1.2.1).symm
  obtain rfl : gr = gr2 := (hw2.2.1).symm
  have hm : th_Mod [405, 805, 905, 1002, 3500, 3600] τ gi gr gi1 gr := hw1.1
  have hn0 : th_Mod [1217, 5400, 5500, 5900] τ gi1 gr gi2 gr := hw2.1
  have hn := hn0
  have hmn : th_Mod [405, 805, 905, 1002, 1217, 3500, 3600, 5400, 5500, 5900] τ gi gr gi2 gr := hm.tr hn (th_sub rfl) (th_sub rfl)
  have hQ1 : ro_M τ gr A := hQ.mod hm (rm_okE (by decide +kernel))
  have hC1 : ro_C τ gr A := hC.mod hm (rc_okE (by decide +kernel))
  have hC2 : ro_C τ gr A := hC.mod hmn (rc_okE (by decide +kernel))
  have hQ2 : ro_M τ gr A := hQ.mod hmn (rm_okE (by decide +kernel))
  have e1 := hw1.2.2
  have e2 := hw2.2.2
  have ic_no : c_eq 1 6 8 gi gi1 A := (c_eq.fr (th_mem rfl) rfl hC hQ (th_Mod.rf (M := [])) hm (th_nz rfl) (th_nm rfl) (th_nm rfl) b_no)
  have ic_nb : c_eq 1 5 0 gi gi1 A := (c_eq.fr (th_mem rfl) rfl hC hQ (th_Mod.rf (M := [])) hm (th_nz rfl) (th_nm rfl) (th_nm rfl) b_nb)
  have ic_boat : c_boat τ gi gr gi1 A := (c_boat.fr hC hQ (th_Mod.rf (M := [])) hm (th_dj rfl) (th_dj rfl) b_boat)
  have ic_tid : c_tid gi gi1 A := (c_tid.fr hC hQ (th_Mod.rf (M := [])) hm (by decide) (by decide) b_tid)
  have ic_buoy : c_buoy τ gi gr gi1 A := (c_buoy.fr hC hQ (th_Mod.rf (M := [])) hm (th_dj rfl) (th_dj rfl) b_buoy)
  have ic_sl : c_sl τ gi gr A := (c_sl.fr hC (th_Mod.rf (M := [])) (th_dj rfl) b_sl)
  have ic_least : c_least gi A := (c_least.fr hC (th_Mod.rf (M := [])) (th_dj rfl) b_least)
  have ic_rep : c_rep gi A := (c_rep.fr hC (th_Mod.rf (M := [])) (th_dj rfl) b_rep)
  have ic_win : c_eq 1 7 14 gi gi1 A := (c_eq.fr (th_mem rfl) rfl hC hQ (th_Mod.rf (M := [])) hm (th_nz rfl) (th_nm rfl) (th_nm rfl) b_win)
  have ic_way : c_way Z gi1 A := (c_way.fr hQ hm (th_dj rfl) b_way)
  have ic_wish : c_wish τ gi gr gi1 A := (c_wish.fr hC hQ (th_Mod.rf (M := [])) hm (th_dj rfl) (th_dj rfl) b_wish)
  have ic_stay : c_eq 11 9 20 gi gi1 A := (c_eq.fr (th_mem rfl) rfl hC hQ (th_Mod.rf (M := [])) hm (th_nz rfl) (th_nm rfl) (th_nm rfl) b_stay)
  have ic_wnb : c_wnb gi1 A := (c_wnb.fr hQ hm (th_dj rfl) b_wnb)
  have ic_core : c_core τ gi gr gi1 A := (c_core.fr hC hQ (th_Mod.rf (M := [])) hm (th_dj rfl) (th_dj rfl) b_core)
  have ic_rate : c_eq 11 8 23 gi gi1 A := (c_eq.fr (th_mem rfl) rfl hC hQ (th_Mod.rf (M := [])) hm (th_nz rfl) (th_nm rfl) (th_nm rfl) b_rate)
  have z_no : c_eq 1 6 8 gi2 gi2 A := (c_eq.fr (th_mem rfl) rfl hC hQ hmn hmn (th_nz rfl) (th_nm rfl) (th_nm rfl) b_no)
  have z_nb : c_eq 1 5 0 gi2 gi2 A := (c_eq.fr (th_mem rfl) rfl hC hQ hmn hmn (th_nz rfl) (th_nm rfl) (th_nm rfl) b_nb)
  have z_boat : c_boat τ gi2 gr gi2 A := (c_boat.fr hC hQ hmn hmn (th_dj rfl) (th_dj rfl) b_boat)
  have z_tid : c_tid gi2 gi2 A := (c_tid.fr hC hQ hmn hmn (by decide) (by decide) b_tid)
  have z_buoy : c_buoy τ gi2 gr gi2 A := (c_buoy.fr hC hQ hmn hmn (th_dj rfl) (th_dj rfl) b_buoy)
  have z_sl : c_sl τ gi2 gr A := (c_sl.fr hC hmn (th_dj rfl) b_sl)
  have z_least : c_least gi2 A := (c_least.fr hC hmn (th_dj rfl) b_least)
  have z_rep : c_rep gi2 A := (c_rep.fr hC hmn (th_dj rfl) b_rep)
  have z_win : c_eq 1 7 14 gi2 gi2 A := (c_eq.fr (th_mem rfl) rfl hC hQ hmn hmn (th_nz rfl) (th_nm rfl) (th_nm rfl) b_win)
  have z_way : c_way Z gi2 A := (c_way.fr hQ hmn (th_dj rfl) b_way)
  have z_wish : c_wish τ gi2 gr gi2 A := (c_wish.fr hC hQ hmn hmn (th_dj rfl) (th_dj rfl) b_wish)
  have z_stay : c_eq 11 9 20 gi2 gi2 A := (c_eq.fr (th_mem rfl) rfl hC hQ hmn hmn (th_nz rfl) (th_nm rfl) (th_nm rfl) b_stay)
  have z_wnb : c_wnb gi2 A := (c_wnb.fr hQ hmn (th_dj rfl) b_wnb)
  have d_core : c_core τ gi1 gr gi2 A := (s_wait ⟨hJ, hJ1, hC, hQ1, ic_no, ic_nb, ic_win, ic_boat, ic_buoy, ic_tid, ic_sl, ic_least, ic_rep, ic_way⟩ ic_core e1 e2).2
  have z_core : c_core τ gi2 gr gi2 A := (c_core.fr hC1 hQ2 hn0 (th_Mod.rf (M := [])) (th_dj rfl) (th_dj rfl) d_core)
  have z_rate : c_eq 11 8 23 gi2 gi2 A := (c_eq.fr (th_mem rfl) rfl hC hQ hmn hmn (th_nz rfl) (th_nm rfl) (th_nm rfl) b_rate)
  exact ⟨hC2, hQ2, z_no, z_nb, z_boat, z_tid, z_buoy, z_sl, z_least, z_rep, z_win, z_way, z_wish, z_stay, z_wnb, z_core, z_rate⟩

set_option maxHeartbeats 2000000 in
theorem sim_away {Z : th_Zt} {τ : th_t} {gi gi1 gi2 : th_i} {gr gr1 gr2 : th_r} {A : Nat → Nat} {v1 r1 r2 : Int32} (hJ : th_J τ gi gr) (hJ1 : th_J τ gi1 gr1) (hv : Rel Z τ gi gr gi gr A) (hw1 : th_Mod [1002, 3500, 3600] τ gi gr gi1 gr1 ∧ gr1 = gr ∧ (F_X11_away τ Z gi gr (A 11) v1 = (r1, gi1))) (hw2 : th_Mod [1217, 5400, 5900] τ gi1 gr1 gi2 gr2 ∧ gr2 = gr1 ∧ (F_X12_away τ Z gi1 gr1 (A 12) v1 = (r2, gi2))) : Rel Z τ gi2 gr2 gi2 gr2 A := by
  obtain ⟨hC, hQ, b_no, b_nb, b_boat, b_tid, b_buoy, b_sl, b_least, b_rep, b_win, b_way, b_wish, b_stay, b_wnb, b_core, b_rate⟩ := hv
  obtain rfl : gr = gr1 := (hw1.2.1).symm
  obtain rfl : gr = gr2 := (hw2.2.1).symm
  have hm : th_Mod [1002, 3500, 3600] τ gi gr gi1 gr := hw1.1
  have hn0 : th_Mod [1217, 5400, 5900] τ gi1 gr gi2 gr := hw2.1
  have hn := hn0
  have hmn : th_Mod [1002, 1217, 3500, 3600, 5400, 5900] τ gi gr gi2 gr := hm.tr hn (th_sub rfl) (th_sub rfl)
  have hQ1 : ro_M τ gr A := hQ.mod hm (rm_okE (by decide +kernel))
  have hC1 : ro_C τ gr A := hC.mod hm (rc_okE (by decide +kernel))
  have hC2 : ro_C τ gr A := hC.mod hmn (rc_okE (by decide +kernel))
  have hQ2 : ro_M τ gr A := hQ.mod hmn (rm_okE (by decide +kernel))
  have e1 := hw1.2.2
  have e2 := hw2.2.2
  have ic_no : c_eq 1 6 8 gi gi1 A := (c_eq.fr (th_mem rfl) rfl hC hQ (th_Mod.rf (M := [])) hm (th_nz rfl) (th_nm rfl) (th_nm rfl) b_no)
  have ic_nb : c_eq 1 5 0 gi gi1 A := (c_eq.fr (th_mem rfl) rfl hC hQ (th_Mod.rf (M := [])) hm (th_nz rfl) (th_nm rfl) (th_nm rfl) b_nb)
  have ic_boat : c_boat τ gi gr gi1 A := (c_boat.fr hC hQ (th_Mod.rf (M := [])) hm (th_dj rfl) (th_dj rfl) b_boat)
  have ic_tid : c_tid gi gi1 A := (c_tid.fr hC hQ (th_Mod.rf (M := [])) hm (by decide) (by decide) b_tid)
  have ic_buoy : c_buoy τ gi gr gi1 A := (c_buoy.fr hC hQ (th_Mod.rf (M := [])) hm (th_dj rfl) (th_dj rfl) b_buoy)
  have ic_sl : c_sl τ gi gr A := (c_sl.fr hC (th_Mod.rf (M := [])) (th_dj rfl) b_sl)
  have ic_least : c_least gi A := (c_least.fr hC (th_Mod.rf (M := [])) (th_dj rfl) b_least)
  have ic_rep : c_rep gi A := (c_rep.fr hC (th_Mod.rf (M := [])) (th_dj rfl) b_rep)
  have ic_win : c_eq 1 7 14 gi gi1 A := (c_eq.fr (th_mem rfl) rfl hC hQ (th_Mod.rf (M := [])) hm (th_nz rfl) (th_nm rfl) (th_nm rfl) b_win)
  have ic_way : c_way Z gi1 A := (c_way.fr hQ hm (th_dj rfl) b_way)
  have ic_wish : c_wish τ gi gr gi1 A := (c_wish.fr hC hQ (th_Mod.rf (M := [])) hm (th_dj rfl) (th_dj rfl) b_wish)
  have ic_stay : c_eq 11 9 20 gi gi1 A := (c_eq.fr (th_mem rfl) rfl hC hQ (th_Mod.rf (M := [])) hm (th_nz rfl) (th_nm rfl) (th_nm rfl) b_stay)
  have ic_wnb : c_wnb gi1 A := (c_wnb.fr hQ hm (th_dj rfl) b_wnb)
  have ic_core : c_core τ gi gr gi1 A := (c_core.fr hC hQ (th_Mod.rf (M := [])) hm (th_dj rfl) (th_dj rfl) b_core)
  have ic_rate : c_eq 11 8 23 gi gi1 A := (c_eq.fr (th_mem rfl) rfl hC hQ (th_Mod.rf (M := [])) hm (th_nz rfl) (th_nm rfl) (th_nm rfl) b_rate)
  have z_no : c_eq 1 6 8 gi2 gi2 A := (c_eq.fr (th_mem rfl) rfl hC hQ hmn hmn (th_nz rfl) (th_nm rfl) (th_nm rfl) b_no)
  have z_nb : c_eq 1 5 0 gi2 gi2 A := (c_eq.fr (th_mem rfl) rfl hC hQ hmn hmn (th_nz rfl) (th_nm rfl) (th_nm rfl) b_nb)
  have z_boat : c_boat τ gi2 gr gi2 A := (c_boat.fr hC hQ hmn hmn (th_dj rfl) (th_dj rfl) b_boat)
  have z_tid : c_tid gi2 gi2 A := (c_tid.fr hC hQ hmn hmn (by decide) (by decide) b_tid)
  have z_buoy : c_buoy τ gi2 gr gi2 A := (c_buoy.fr hC hQ hmn hmn (th_dj rfl) (th_dj rfl) b_buoy)
  have z_sl : c_sl τ gi2 gr A := (c_sl.fr hC hmn (th_dj rfl) b_sl)
  have z_least : c_least gi2 A := (c_least.fr hC hmn (th_dj rfl) b_least)
  have z_rep : c_rep gi2 A := (c_rep.fr hC hmn (th_dj rfl) b_rep)
  have z_win : c_eq 1 7 14 gi2 gi2 A := (c_eq.fr (th_mem rfl) rfl hC hQ hmn hmn (th_nz rfl) (th_nm rfl) (th_nm rfl) b_win)
  have z_way : c_way Z gi2 A := (c_way.fr hQ hmn (th_dj rfl) b_way)
  have z_wish : c_wish τ gi2 gr gi2 A := (c_wish.fr hC hQ hmn hmn (th_dj rfl) (th_dj rfl) b_wish)
  have z_stay : c_eq 11 9 20 gi2 gi2 A := (c_eq.fr (th_mem rfl) rfl hC hQ hmn hmn (th_nz rfl) (th_nm rfl) (th_nm rfl) b_stay)
  have z_wnb : c_wnb gi2 A := (c_wnb.fr hQ hmn (th_dj rfl) b_wnb)
  have d_core : c_core τ gi1 gr gi2 A := (s_away ⟨hJ, hJ1, hC, hQ1, ic_no, ic_nb, ic_win, ic_boat, ic_buoy, ic_tid, ic_sl, ic_least, ic_rep, ic_way⟩ ic_core e1 e2).2
  have z_core : c_core τ gi2 gr gi2 A := (c_core.fr hC1 hQ2 hn0 (th_Mod.rf (M := [])) (th_dj rfl) (th_dj rfl) d_core)
  have z_rate : c_eq 11 8 23 gi2 gi2 A := (c_eq.fr (th_mem rfl) rfl hC hQ hmn hmn (th_nz rfl) (th_nm rfl) (th_nm rfl) b_rate)
  exact ⟨hC2, hQ2, z_no, z_nb, z_boat, z_tid, z_buoy, z_sl, z_least, z_rep, z_win, z_way, z_wish, z_stay, z_wnb, z_core, z_rate⟩

set_option maxHeartbeats 2000000 in
theorem sim_offer {Z : th_Zt} {τ : th_t} {gi gi1 gi2 : th_i} {gr gr1 gr2 : th_r} {A : Nat → Nat} {v1 r1 r2 : Int32} (hJ : th_J τ gi gr) (hJ1 : th_J τ gi1 gr1) (hv : Rel Z τ gi gr gi gr A) (hw1 : th_Mod [3600] τ gi gr gi1 gr1 ∧ gr1 = gr ∧ (F_X11_offer τ Z gi gr (A 11) v1 = (r1, gi1))) (hw2 : th_Mod [5900] τ gi1 gr1 gi2 gr2 ∧ gr2 = gr1 ∧ (F_X12_offer τ Z gi1 gr1 (A 12) v1 = (r2, gi2))) : Rel Z τ gi2 gr2 gi2 gr2 A := by
  obtain ⟨hC, hQ, b_no, b_nb, b_boat, b_tid, b_buoy, b_sl, b_least, b_rep, b_win, b_way, b_wish, b_stay, b_wnb, b_core, b_rate⟩ := hv
  obtain rfl : gr = gr1 := (hw1.2.1).symm
  obtain rfl : gr = gr2 := (hw2.2.1).symm
  have hm : th_Mod [3600] τ gi gr gi1 gr := hw1.1
  have hn0 : th_Mod [5900] τ gi1 gr gi2 gr := hw2.1
  have hn := hn0
  have hmn : th_Mod [3600, 5900] τ gi gr gi2 gr := hm.tr hn (th_sub rfl) (th_sub rfl)
  have hQ1 : ro_M τ gr A := hQ.mod hm (rm_okE (by decide +kernel))
  have hC1 : ro_C τ gr A := hC.mod hm (rc_okE (by decide +kernel))
  have hC2 : ro_C τ gr A := hC.mod hmn (rc_okE (by decide +kernel))
  have hQ2 : ro_M τ gr A := hQ.mod hmn (rm_okE (by decide +kernel))
  have e1 := hw1.2.2
  have e2 := hw2.2.2
  have z_no : c_eq 1 6 8 gi2 gi2 A := (c_eq.fr (th_mem rfl) rfl hC hQ hmn hmn (th_nz rfl) (th_nm rfl) (th_nm rfl) b_no)
  have z_nb : c_eq 1 5 0 gi2 gi2 A := (c_eq.fr (th_mem rfl) rfl hC hQ hmn hmn (th_nz rfl) (th_nm rfl) (th_nm rfl) b_nb)
  have z_boat : c_boat τ gi2 gr gi2 A := (c_boat.fr hC hQ hmn hmn (th_dj rfl) (th_dj rfl) b_boat)
  have z_tid : c_tid gi2 gi2 A := (c_tid.fr hC hQ hmn hmn (by decide) (by decide) b_tid)
  have z_buoy : c_buoy τ gi2 gr gi2 A := (c_buoy.fr hC hQ hmn hmn (th_dj rfl) (th_dj rfl) b_buoy)
  have z_sl : c_sl τ gi2 gr A := (c_sl.fr hC hmn (th_dj rfl) b_sl)
  have z_least : c_least gi2 A := (c_least.fr hC hmn (th_dj rfl) b_least)
  have z_rep : c_rep gi2 A := (c_rep.fr hC hmn (th_dj rfl) b_rep)
  have z_win : c_eq 1 7 14 gi2 gi2 A := (c_eq.fr (th_mem rfl) rfl hC hQ hmn hmn (th_nz rfl) (th_nm rfl) (th_nm rfl) b_win)
  have z_way : c_way Z gi2 A := (c_way.fr hQ hmn (th_dj rfl) b_way)
  have z_wish : c_wish τ gi2 gr gi2 A := (c_wish.fr hC hQ hmn hmn (th_dj rfl) (th_dj rfl) b_wish)
  have z_stay : c_eq 11 9 20 gi2 gi2 A := (c_eq.fr (th_mem rfl) rfl hC hQ hmn hmn (th_nz rfl) (th_nm rfl) (th_nm rfl) b_stay)
  have z_wnb : c_wnb gi2 A := (c_wnb.fr hQ hmn (th_dj rfl) b_wnb)
  have z_core : c_core τ gi2 gr gi2 A := (c_core.fr hC hQ hmn hmn (th_dj rfl) (th_dj rfl) b_core)
  have z_rate : c_eq 11 8 23 gi2 gi2 A := (c_eq.fr (th_mem rfl) rfl hC hQ hmn hmn (th_nz rfl) (th_nm rfl) (th_nm rfl) b_rate)
  exact ⟨hC2, hQ2, z_no, z_nb, z_boat, z_tid, z_buoy, z_sl, z_least, z_rep, z_win, z_way, z_wish, z_stay, z_wnb, z_core, z_rate⟩

set_option maxHeartbeats 2000000 in
theorem sim_answer {Z : th_Zt} {τ : th_t} {gi gi1 gi2 : th_i} {gr gr1 gr2 : th_r} {A : Nat → Nat} {v1 v2 r1 r2 : Int32} (hJ : th_J τ gi gr) (hJ1 : th_J τ gi1 gr1) (hv : Rel Z τ gi gr gi gr A) (hw1 : th_Mod [405, 805, 905, 1002, 2400, 2500, 3500, 3600] τ gi gr gi1 gr1 ∧ gr1 = gr ∧ (F_X11_answer τ Z gi gr (A 11) v1 v2 = (r1, gi1))) (hw2 : th_Mod [1217, 4600, 5000, 5400, 5500, 5900] τ gi1 gr1 gi2 gr2 ∧ gr2 = gr1 ∧ (F_X12_answer τ Z gi1 gr1 (A 12) v1 v2 = (r2, gi2))) : Rel Z τ gi2 gr2 gi2 gr2 A := by
  obtain ⟨hC, hQ, b_no, b_nb, b_boat, b_tid, b_buoy, b_sl, b_least, b_rep, b_win, b_way, b_wish, b_stay, b_wnb, b_core, b_rate⟩ := hv
  obtain rfl : gr = gr1 := (hw1.2.1).symm
  obtain rfl : gr = gr2 := (hw2.2.1).symm
  have hm : th_Mod [405, 805, 905, 1002, 2400, 2500, 3500, 3600] τ gi gr gi1 gr := hw1.1
  have hn0 : th_Mod [1217, 4600, 5000, 5400, 5500, 5900] τ gi1 gr gi2 gr := hw2.1
  have hn := hn0
  have hmn : th_Mod [405, 805, 905, 1002, 1217, 2400, 2500, 3500, 3600, 4600, 5000, 5400, 5500, 5900] τ gi gr gi2 gr := hm.tr hn (th_sub rfl) (th_sub rfl)
  have hQ1 : ro_M τ gr A := hQ.mod hm (rm_okE (by decide +kernel))
  have hC1 : ro_C τ gr A := hC.mod hm (rc_okE (by decide +kernel))
  have hC2 : ro_C τ gr A := hC.mod hmn (rc_okE (by decide +kernel))
  have hQ2 : ro_M τ gr A := hQ.mod hmn (rm_okE (by decide +kernel))
  have e1 := hw1.2.2
  have e2 := hw2.2.2
  have ic_no : c_eq 1 6 8 gi gi1 A := (c_eq.fr (th_mem rfl) rfl hC hQ (th_Mod.rf (M := [])) hm (th_nz rfl) (th_nm rfl) (th_nm rfl) b_no)
  have ic_nb : c_eq 1 5 0 gi gi1 A := (c_eq.fr (th_mem rfl) rfl hC hQ (th_Mod.rf (M := [])) hm (th_nz rfl) (th_nm rfl) (th_nm rfl) b_nb)
  have ic_boat : c_boat τ gi gr gi1 A := (c_boat.fr hC hQ (th_Mod.rf (M := [])) hm (th_dj rfl) (th_dj rfl) b_boat)
  have ic_tid : c_tid gi gi1 A := (c_tid.fr hC hQ (th_Mod.rf (M := [])) hm (by decide) (by decide) b_tid)
  have ic_buoy : c_buoy τ gi gr gi1 A := (c_buoy.fr hC hQ (th_Mod.rf (M := [])) hm (th_dj rfl) (th_dj rfl) b_buoy)
  have ic_sl : c_sl τ gi gr A := (c_sl.fr hC (th_Mod.rf (M := [])) (th_dj rfl) b_sl)
  have ic_least : c_least gi A := (c_least.fr hC (th_Mod.rf (M := [])) (th_dj rfl) b_least)
  have ic_rep : c_rep gi A := (c_rep.fr hC (th_Mod.rf (M := [])) (th_dj rfl) b_rep)
  have ic_win : c_eq 1 7 14 gi gi1 A := (c_eq.fr (th_mem rfl) rfl hC hQ (th_Mod.rf (M := [])) hm (th_nz rfl) (th_nm rfl) (th_nm rfl) b_win)
  have ic_way : c_way Z gi1 A := (c_way.fr hQ hm (th_dj rfl) b_way)
  have ic_wish : c_wish τ gi gr gi1 A := (c_wish.fr hC hQ (th_Mod.rf (M := [])) hm (th_dj rfl) (th_dj rfl) b_wish)
  have ic_stay : c_eq 11 9 20 gi gi1 A := (c_eq.fr (th_mem rfl) rfl hC hQ (th_Mod.rf (M := [])) hm (th_nz rfl) (th_nm rfl) (th_nm rfl) b_stay)
  have ic_wnb : c_wnb gi1 A := (c_wnb.fr hQ hm (th_dj rfl) b_wnb)
  have ic_core : c_core τ gi gr gi1 A := (c_core.fr hC hQ (th_Mod.rf (M := [])) hm (th_dj rfl) (th_dj rfl) b_core)
  have ic_rate : c_eq 11 8 23 gi gi1 A := (c_eq.fr (th_mem rfl) rfl hC hQ (th_Mod.rf (M := [])) hm (th_nz rfl) (th_nm rfl) (th_nm rfl) b_rate)
  have z_no : c_eq 1 6 8 gi2 gi2 A := (c_eq.fr (th_mem rfl) rfl hC hQ hmn hmn (th_nz rfl) (th_nm rfl) (th_nm rfl) b_no)
  have z_nb : c_eq 1 5 0 gi2 gi2 A := (c_eq.fr (th_mem rfl) rfl hC hQ hmn hmn (th_nz rfl) (th_nm rfl) (th_nm rfl) b_nb)
  have z_boat : c_boat τ gi2 gr gi2 A := (c_boat.fr hC hQ hmn hmn (th_dj rfl) (th_dj rfl) b_boat)
  have z_tid : c_tid gi2 gi2 A := (c_tid.fr hC hQ hmn hmn (by decide) (by decide) b_tid)
  have z_buoy : c_buoy τ gi2 gr gi2 A := (c_buoy.fr hC hQ hmn hmn (th_dj rfl) (th_dj rfl) b_buoy)
  have z_sl : c_sl τ gi2 gr A := (c_sl.fr hC hmn (th_dj rfl) b_sl)
  have z_least : c_least gi2 A := (c_least.fr hC hmn (th_dj rfl) b_least)
  have z_rep : c_rep gi2 A := (c_rep.fr hC hmn (th_dj rfl) b_rep)
  have z_win : c_eq 1 7 14 gi2 gi2 A := (c_eq.fr (th_mem rfl) rfl hC hQ hmn hmn (th_nz rfl) (th_nm rfl) (th_nm rfl) b_win)
  have z_way : c_way Z gi2 A := (c_way.fr hQ hmn (th_dj rfl) b_way)
  have z_wish : c_wish τ gi2 gr gi2 A := (c_wish.fr hC hQ hmn hmn (th_dj rfl) (th_dj rfl) b_wish)
  have z_stay : c_eq 11 9 20 gi2 gi2 A := (c_eq.fr (th_mem rfl) rfl hC hQ hmn hmn (th_nz rfl) (th_nm rfl) (th_nm rfl) b_stay)
  have z_wnb : c_wnb gi2 A := (c_wnb.fr hQ hmn (th_dj rfl) b_wnb)
  have d_core : c_core τ gi1 gr gi2 A := (s_answer ⟨hJ, hJ1, hC, hQ1, ic_no, ic_nb, ic_win, ic_boat, ic_buoy, ic_tid, ic_sl, ic_least, ic_rep, ic_way⟩ ic_stay ic_core e1 e2).2
  have z_core : c_core τ gi2 gr gi2 A := (c_core.fr hC1 hQ2 hn0 (th_Mod.rf (M := [])) (th_dj rfl) (th_dj rfl) d_core)
  have z_rate : c_eq 11 8 23 gi2 gi2 A := (c_eq.fr (th_mem rfl) rfl hC hQ hmn hmn (th_nz rfl) (th_nm rfl) (th_nm rfl) b_rate)
  exact ⟨hC2, hQ2, z_no, z_nb, z_boat, z_tid, z_buoy, z_sl, z_least, z_rep, z_win, z_way, z_wish, z_stay, z_wnb, z_core, z_rate⟩

set_option maxHeartbeats 2000000 in
theorem sim_stays {Z : th_Zt} {τ : th_t} {gi gi1 gi2 : th_i} {gr gr1 gr2 : th_r} {A : Nat → Nat} {v1 r1 r2 : Int32} (hJ : th_J τ gi gr) (hJ1 : th_J τ gi1 gr1) (hv : Rel Z τ gi gr gi gr A) (hw1 : th_Mod [1109, 3600] τ gi gr gi1 gr1 ∧ gr1 = gr ∧ (F_X11_stays τ Z gi gr (A 11) v1 = (r1, gi1)) ∧ (se_post 0 1 (gi (A 11) 9) (gi1 (A 11) 9) v1 r1)) (hw2 : th_Mod [1220, 5900] τ gi1 gr1 gi2 gr2 ∧ gr2 = gr1 ∧ (F_X12_stays τ Z gi1 gr1 (A 12) v1 = (r2, gi2)) ∧ (se_post 0 1 (gi1 (A 12) 20) (gi2 (A 12) 20) v1 r2)) : Rel Z τ gi2 gr2 gi2 gr2 A := by
  obtain ⟨hC, hQ, b_no, b_nb, b_boat, b_tid, b_buoy, b_sl, b_least, b_rep, b_win, b_way, b_wish, b_stay, b_wnb, b_core, b_rate⟩ := hv
  obtain rfl : gr = gr1 := (hw1.2.1).symm
  obtain rfl : gr = gr2 := (hw2.2.1).symm
  have hm : th_Mod [1109, 3600] τ gi gr gi1 gr := hw1.1
  have hn0 : th_Mod [1220, 5900] τ gi1 gr gi2 gr := hw2.1
  have hn := hn0
  have hmn : th_Mod [1109, 1220, 3600, 5900] τ gi gr gi2 gr := hm.tr hn (th_sub rfl) (th_sub rfl)
  have hQ1 : ro_M τ gr A := hQ.mod hm (rm_okE (by decide +kernel))
  have hC1 : ro_C τ gr A := hC.mod hm (rc_okE (by decide +kernel))
  have hC2 : ro_C τ gr A := hC.mod hmn (rc_okE (by decide +kernel))
  have hQ2 : ro_M τ gr A := hQ.mod hmn (rm_okE (by decide +kernel))
  have e1 := hw1.2.2.1
  have e2 := hw2.2.2.1
  have x1 := hw1.2.2.2
  have y1 := hw2.2.2.2
  have ic_no : c_eq 1 6 8 gi gi1 A := (c_eq.fr (th_mem rfl) rfl hC hQ (th_Mod.rf (M := [])) hm (th_nz rfl) (th_nm rfl) (th_nm rfl) b_no)
  have ic_nb : c_eq 1 5 0 gi gi1 A := (c_eq.fr (th_mem rfl) rfl hC hQ (th_Mod.rf (M := [])) hm (th_nz rfl) (th_nm rfl) (th_nm rfl) b_nb)
  have ic_boat : c_boat τ gi gr gi1 A := (c_boat.fr hC hQ (th_Mod.rf (M := [])) hm (th_dj rfl) (th_dj rfl) b_boat)
  have ic_tid : c_tid gi gi1 A := (c_tid.fr hC hQ (th_Mod.rf (M := [])) hm (by decide) (by decide) b_tid)
  have ic_buoy : c_buoy τ gi gr gi1 A := (c_buoy.fr hC hQ (th_Mod.rf (M := [])) hm (th_dj rfl) (th_dj rfl) b_buoy)
  have ic_sl : c_sl τ gi gr A := (c_sl.fr hC (th_Mod.rf (M := [])) (th_dj rfl) b_sl)
  have ic_least : c_least gi A := (c_least.fr hC (th_Mod.rf (M := [])) (th_dj rfl) b_least)
  have ic_rep : c_rep gi A := (c_rep.fr hC (th_Mod.rf (M := [])) (th_dj rfl) b_rep)
  have ic_win : c_eq 1 7 14 gi gi1 A := (c_eq.fr (th_mem rfl) rfl hC hQ (th_Mod.rf (M := [])) hm (th_nz rfl) (th_nm rfl) (th_nm rfl) b_win)
  have ic_way : c_way Z gi1 A := (c_way.fr hQ hm (th_dj rfl) b_way)
  have ic_wish : c_wish τ gi gr gi1 A := (c_wish.fr hC hQ (th_Mod.rf (M := [])) hm (th_dj rfl) (th_dj rfl) b_wish)
  have ic_stay : c_eq 11 9 20 gi gi1 A := (c_eq.fr (th_mem rfl) rfl hC hQ (th_Mod.rf (M := [])) hm (th_nz rfl) (th_nm rfl) (th_nm rfl) b_stay)
  have ic_wnb : c_wnb gi1 A := (c_wnb.fr hQ hm (th_dj rfl) b_wnb)
  have ic_core : c_core τ gi gr gi1 A := (c_core.fr hC hQ (th_Mod.rf (M := [])) hm (th_dj rfl) (th_dj rfl) b_core)
  have ic_rate : c_eq 11 8 23 gi gi1 A := (c_eq.fr (th_mem rfl) rfl hC hQ (th_Mod.rf (M := [])) hm (th_nz rfl) (th_nm rfl) (th_nm rfl) b_rate)
  have z_no : c_eq 1 6 8 gi2 gi2 A := (c_eq.fr (th_mem rfl) rfl hC hQ hmn hmn (th_nz rfl) (th_nm rfl) (th_nm rfl) b_no)
  have z_nb : c_eq 1 5 0 gi2 gi2 A := (c_eq.fr (th_mem rfl) rfl hC hQ hmn hmn (th_nz rfl) (th_nm rfl) (th_nm rfl) b_nb)
  have z_boat : c_boat τ gi2 gr gi2 A := (c_boat.fr hC hQ hmn hmn (th_dj rfl) (th_dj rfl) b_boat)
  have z_tid : c_tid gi2 gi2 A := (c_tid.fr hC hQ hmn hmn (by decide) (by decide) b_tid)
  have z_buoy : c_buoy τ gi2 gr gi2 A := (c_buoy.fr hC hQ hmn hmn (th_dj rfl) (th_dj rfl) b_buoy)
  have z_sl : c_sl τ gi2 gr A := (c_sl.fr hC hmn (th_dj rfl) b_sl)
  have z_least : c_least gi2 A := (c_least.fr hC hmn (th_dj rfl) b_least)
  have z_rep : c_rep gi2 A := (c_rep.fr hC hmn (th_dj rfl) b_rep)
  have z_win : c_eq 1 7 14 gi2 gi2 A := (c_eq.fr (th_mem rfl) rfl hC hQ hmn hmn (th_nz rfl) (th_nm rfl) (th_nm rfl) b_win)
  have z_way : c_way Z gi2 A := (c_way.fr hQ hmn (th_dj rfl) b_way)
  have z_wish : c_wish τ gi2 gr gi2 A := (c_wish.fr hC hQ hmn hmn (th_dj rfl) (th_dj rfl) b_wish)
  have d_stay : c_eq 11 9 20 gi1 gi2 A := (se_same x1 y1 ic_stay).2
  have z_stay : c_eq 11 9 20 gi2 gi2 A := (c_eq.fr (th_mem rfl) rfl hC1 hQ2 hn0 (th_Mod.rf (M := [])) (th_nz rfl) (th_nm rfl) (th_nm rfl) d_stay)
  have z_wnb : c_wnb gi2 A := (c_wnb.fr hQ hmn (th_dj rfl) b_wnb)
  have z_core : c_core τ gi2 gr gi2 A := (c_core.fr hC hQ hmn hmn (th_dj rfl) (th_dj rfl) b_core)
  have z_rate : c_eq 11 8 23 gi2 gi2 A := (c_eq.fr (th_mem rfl) rfl hC hQ hmn hmn (th_nz rfl) (th_nm rfl) (th_nm rfl) b_rate)
  exact ⟨hC2, hQ2, z_no, z_nb, z_boat, z_tid, z_buoy, z_sl, z_least, z_rep, z_win, z_way, z_wish, z_stay, z_wnb, z_core, z_rate⟩

set_option maxHeartbeats 2000000 in
theorem sim_rather {Z : th_Zt} {τ : th_t} {gi gi1 gi2 : th_i} {gr gr1 gr2 : th_r} {A : Nat → Nat} {v1 v2 r1 r2 : Int32} (hJ : th_J τ gi gr) (hJ1 : th_J τ gi1 gr1) (hv : Rel Z τ gi gr gi gr A) (hw1 : th_Mod [404, 804, 904, 2700, 3600] τ gi gr gi1 gr1 ∧ gr1 = gr ∧ (F_X11_rather τ Z gi gr (A 11) v1 v2 = (r1, gi1))) (hw2 : th_Mod [5600, 5700, 5900] τ gi1 gr1 gi2 gr2 ∧ gr2 = gr1 ∧ (F_X12_rather τ Z gi1 gr1 (A 12) v1 v2 = (r2, gi2))) : Rel Z τ gi2 gr2 gi2 gr2 A := by
  obtain ⟨hC, hQ, b_no, b_nb, b_boat, b_tid, b_buoy, b_sl, b_least, b_rep, b_win, b_way, b_wish, b_stay, b_wnb, b_core, b_rate⟩ := hv
  obtain rfl : gr = gr1 := (hw1.2.1).symm
  obtain rfl : gr = gr2 := (hw2.2.1).symm
  have hm : th_Mod [404, 804, 904, 2700, 3600] τ gi gr gi1 gr := hw1.1
  have hn0 : th_Mod [5600, 5700, 5900] τ gi1 gr gi2 gr := hw2.1
  have hn := hn0
  have hmn : th_Mod [404, 804, 904, 2700, 3600, 5600, 5700, 5900] τ gi gr gi2 gr := hm.tr hn (th_sub rfl) (th_sub rfl)
  have hQ1 : ro_M τ gr A := hQ.mod hm (rm_okE (by decide +kernel))
  have hC1 : ro_C τ gr A := hC.mod hm (rc_okE (by decide +kernel))
  have hC2 : ro_C τ gr A := hC.mod hmn (rc_okE (by decide +kernel))
  have hQ2 : ro_M τ gr A := hQ.mod hmn (rm_okE (by decide +kernel))
  have e1 := hw1.2.2
  have e2 := hw2.2.2
  have ic_no : c_eq 1 6 8 gi gi1 A := (c_eq.fr (th_mem rfl) rfl hC hQ (th_Mod.rf (M := [])) hm (th_nz rfl) (th_nm rfl) (th_nm rfl) b_no)
  have ic_nb : c_eq 1 5 0 gi gi1 A := (c_eq.fr (th_mem rfl) rfl hC hQ (th_Mod.rf (M := [])) hm (th_nz rfl) (th_nm rfl) (th_nm rfl) b_nb)
  have ic_boat : c_boat τ gi gr gi1 A := (c_boat.fr hC hQ (th_Mod.rf (M := [])) hm (th_dj rfl) (th_dj rfl) b_boat)
  have ic_tid : c_tid gi gi1 A := (c_tid.fr hC hQ (th_Mod.rf (M := [])) hm (by decide) (by decide) b_tid)
  have ic_buoy : c_buoy τ gi gr gi1 A := (c_buoy.fr hC hQ (th_Mod.rf (M := [])) hm (th_dj rfl) (th_dj rfl) b_buoy)
  have ic_sl : c_sl τ gi gr A := (c_sl.fr hC (th_Mod.rf (M := [])) (th_dj rfl) b_sl)
  have ic_least : c_least gi A := (c_least.fr hC (th_Mod.rf (M := [])) (th_dj rfl) b_least)
  have ic_rep : c_rep gi A := (c_rep.fr hC (th_Mod.rf (M := [])) (th_dj rfl) b_rep)
  have ic_win : c_eq 1 7 14 gi gi1 A := (c_eq.fr (th_mem rfl) rfl hC hQ (th_Mod.rf (M := [])) hm (th_nz rfl) (th_nm rfl) (th_nm rfl) b_win)
  have ic_way : c_way Z gi1 A := (c_way.fr hQ hm (th_dj rfl) b_way)
  have ic_wish : c_wish τ gi gr gi1 A := (c_wish.fr hC hQ (th_Mod.rf (M := [])) hm (th_dj rfl) (th_dj rfl) b_wish)
  have ic_stay : c_eq 11 9 20 gi gi1 A := (c_eq.fr (th_mem rfl) rfl hC hQ (th_Mod.rf (M := [])) hm (th_nz rfl) (th_nm rfl) (th_nm rfl) b_stay)
  have ic_wnb : c_wnb gi1 A := (c_wnb.fr hQ hm (th_dj rfl) b_wnb)
  have ic_core : c_core τ gi gr gi1 A := (c_core.fr hC hQ (th_Mod.rf (M := [])) hm (th_dj rfl) (th_dj rfl) b_core)
  have ic_rate : c_eq 11 8 23 gi gi1 A := (c_eq.fr (th_mem rfl) rfl hC hQ (th_Mod.rf (M := [])) hm (th_nz rfl) (th_nm rfl) (th_nm rfl) b_rate)
  have z_no : c_eq 1 6 8 gi2 gi2 A := (c_eq.fr (th_mem rfl) rfl hC hQ hmn hmn (th_nz rfl) (th_nm rfl) (th_nm rfl) b_no)
  have z_nb : c_eq 1 5 0 gi2 gi2 A := (c_eq.fr (th_mem rfl) rfl hC hQ hmn hmn (th_nz rfl) (th_nm rfl) (th_nm rfl) b_nb)
  have z_boat : c_boat τ gi2 gr gi2 A := (c_boat.fr hC hQ hmn hmn (th_dj rfl) (th_dj rfl) b_boat)
  have z_tid : c_tid gi2 gi2 A := (c_tid.fr hC hQ hmn hmn (by decide) (by decide) b_tid)
  have z_buoy : c_buoy τ gi2 gr gi2 A := (c_buoy.fr hC hQ hmn hmn (th_dj rfl) (th_dj rfl) b_buoy)
  have z_sl : c_sl τ gi2 gr A := (c_sl.fr hC hmn (th_dj rfl) b_sl)
  have z_least : c_least gi2 A := (c_least.fr hC hmn (th_dj rfl) b_least)
  have z_rep : c_rep gi2 A := (c_rep.fr hC hmn (th_dj rfl) b_rep)
  have z_win : c_eq 1 7 14 gi2 gi2 A := (c_eq.fr (th_mem rfl) rfl hC hQ hmn hmn (th_nz rfl) (th_nm rfl) (th_nm rfl) b_win)
  have z_way : c_way Z gi2 A := (c_way.fr hQ hmn (th_dj rfl) b_way)
  have d_wish : c_wish τ gi1 gr gi2 A := (s_rather hJ hJ1 hC hQ1 ic_nb ic_no ic_boat (fun i hi => (ic_buoy i hi).imp (fun _ h => h.1)) ic_wish e1 e2).2
  have z_wish : c_wish τ gi2 gr gi2 A := (c_wish.fr hC1 hQ2 hn0 (th_Mod.rf (M := [])) (th_dj rfl) (th_dj rfl) d_wish)
  have z_stay : c_eq 11 9 20 gi2 gi2 A := (c_eq.fr (th_mem rfl) rfl hC hQ hmn hmn (th_nz rfl) (th_nm rfl) (th_nm rfl) b_stay)
  have d_wnb : c_wnb gi2 A := (wnb_rather hJ1 hQ1 ic_wnb e2)
  have z_wnb : c_wnb gi2 A := (c_wnb.fr hQ2 (th_Mod.rf (M := [])) (th_dj rfl) d_wnb)
  have z_core : c_core τ gi2 gr gi2 A := (c_core.fr hC hQ hmn hmn (th_dj rfl) (th_dj rfl) b_core)
  have z_rate : c_eq 11 8 23 gi2 gi2 A := (c_eq.fr (th_mem rfl) rfl hC hQ hmn hmn (th_nz rfl) (th_nm rfl) (th_nm rfl) b_rate)
  exact ⟨hC2, hQ2, z_no, z_nb, z_boat, z_tid, z_buoy, z_sl, z_least, z_rep, z_win, z_way, z_wish, z_stay, z_wnb, z_core, z_rate⟩

set_option maxHeartbeats 2000000 in
theorem sim_content {Z : th_Zt} {τ : th_t} {gi gi1 gi2 : th_i} {gr gr1 gr2 : th_r} {A : Nat → Nat} {v1 r1 r2 : Int32} (hJ : th_J τ gi gr) (hJ1 : th_J τ gi1 gr1) (hv : Rel Z τ gi gr gi gr A) (hw1 : th_Mod [404, 804, 904, 3600] τ gi gr gi1 gr1 ∧ gr1 = gr ∧ (F_X11_content τ Z gi gr (A 11) v1 = (r1, gi1))) (hw2 : th_Mod [5600, 5900] τ gi1 gr1 gi2 gr2 ∧ gr2 = gr1 ∧ (F_X12_content τ Z gi1 gr1 (A 12) v1 = (r2, gi2))) : Rel Z τ gi2 gr2 gi2 gr2 A := by
  obtain ⟨hC, hQ, b_no, b_nb, b_boat, b_tid, b_buoy, b_sl, b_least, b_rep, b_win, b_way, b_wish, b_stay, b_wnb, b_core, b_rate⟩ := hv
  obtain rfl : gr = gr1 := (hw1.2.1).symm
  obtain rfl : gr = gr2 := (hw2.2.1).symm
  have hm : th_Mod [404, 804, 904, 3600] τ gi gr gi1 gr := hw1.1
  have hn0 : th_Mod [5600, 5900] τ gi1 gr gi2 gr := hw2.1
  have hn := hn0
  have hmn : th_Mod [404, 804, 904, 3600, 5600, 5900] τ gi gr gi2 gr := hm.tr hn (th_sub rfl) (th_sub rfl)
  have hQ1 : ro_M τ gr A := hQ.mod hm (rm_okE (by decide +kernel))
  have hC1 : ro_C τ gr A := hC.mod hm (rc_okE (by decide +kernel))
  have hC2 : ro_C τ gr A := hC.mod hmn (rc_okE (by decide +kernel))
  have hQ2 : ro_M τ gr A := hQ.mod hmn (rm_okE (by decide +kernel))
  have e1 := hw1.2.2
  have e2 := hw2.2.2
  have ic_no : c_eq 1 6 8 gi gi1 A := (c_eq.fr (th_mem rfl) rfl hC hQ (th_Mod.rf (M := [])) hm (th_nz rfl) (th_nm rfl) (th_nm rfl) b_no)
  have ic_nb : c_eq 1 5 0 gi gi1 A := (c_eq.fr (th_mem rfl) rfl hC hQ (th_Mod.rf (M := [])) hm (th_nz rfl) (th_nm rfl) (th_nm rfl) b_nb)
  have ic_boat : c_boat τ gi gr gi1 A := (c_boat.fr hC hQ (th_Mod.rf (M := [])) hm (th_dj rfl) (th_dj rfl) b_boat)
  have ic_tid : c_tid gi gi1 A := (c_tid.fr hC hQ (th_Mod.rf (M := [])) hm (by decide) (by decide) b_tid)
  have ic_buoy : c_buoy τ gi gr gi1 A := (c_buoy.fr hC hQ (th_Mod.rf (M := [])) hm (th_dj rfl) (th_dj rfl) b_buoy)
  have ic_sl : c_sl τ gi gr A := (c_sl.fr hC (th_Mod.rf (M := [])) (th_dj rfl) b_sl)
  have ic_least : c_least gi A := (c_least.fr hC (th_Mod.rf (M := [])) (th_dj rfl) b_least)
  have ic_rep : c_rep gi A := (c_rep.fr hC (th_Mod.rf (M := [])) (th_dj rfl) b_rep)
  have ic_win : c_eq 1 7 14 gi gi1 A := (c_eq.fr (th_mem rfl) rfl hC hQ (th_Mod.rf (M := [])) hm (th_nz rfl) (th_nm rfl) (th_nm rfl) b_win)
  have ic_way : c_way Z gi1 A := (c_way.fr hQ hm (th_dj rfl) b_way)
  have ic_wish : c_wish τ gi gr gi1 A := (c_wish.fr hC hQ (th_Mod.rf (M := [])) hm (th_dj rfl) (th_dj rfl) b_wish)
  have ic_stay : c_eq 11 9 20 gi gi1 A := (c_eq.fr (th_mem rfl) rfl hC hQ (th_Mod.rf (M := [])) hm (th_nz rfl) (th_nm rfl) (th_nm rfl) b_stay)
  have ic_wnb : c_wnb gi1 A := (c_wnb.fr hQ hm (th_dj rfl) b_wnb)
  have ic_core : c_core τ gi gr gi1 A := (c_core.fr hC hQ (th_Mod.rf (M := [])) hm (th_dj rfl) (th_dj rfl) b_core)
  have ic_rate : c_eq 11 8 23 gi gi1 A := (c_eq.fr (th_mem rfl) rfl hC hQ (th_Mod.rf (M := [])) hm (th_nz rfl) (th_nm rfl) (th_nm rfl) b_rate)
  have z_no : c_eq 1 6 8 gi2 gi2 A := (c_eq.fr (th_mem rfl) rfl hC hQ hmn hmn (th_nz rfl) (th_nm rfl) (th_nm rfl) b_no)
  have z_nb : c_eq 1 5 0 gi2 gi2 A := (c_eq.fr (th_mem rfl) rfl hC hQ hmn hmn (th_nz rfl) (th_nm rfl) (th_nm rfl) b_nb)
  have z_boat : c_boat τ gi2 gr gi2 A := (c_boat.fr hC hQ hmn hmn (th_dj rfl) (th_dj rfl) b_boat)
  have z_tid : c_tid gi2 gi2 A := (c_tid.fr hC hQ hmn hmn (by decide) (by decide) b_tid)
  have z_buoy : c_buoy τ gi2 gr gi2 A := (c_buoy.fr hC hQ hmn hmn (th_dj rfl) (th_dj rfl) b_buoy)
  have z_sl : c_sl τ gi2 gr A := (c_sl.fr hC hmn (th_dj rfl) b_sl)
  have z_least : c_least gi2 A := (c_least.fr hC hmn (th_dj rfl) b_least)
  have z_rep : c_rep gi2 A := (c_rep.fr hC hmn (th_dj rfl) b_rep)
  have z_win : c_eq 1 7 14 gi2 gi2 A := (c_eq.fr (th_mem rfl) rfl hC hQ hmn hmn (th_nz rfl) (th_nm rfl) (th_nm rfl) b_win)
  have z_way : c_way Z gi2 A := (c_way.fr hQ hmn (th_dj rfl) b_way)
  have d_wish : c_wish τ gi1 gr gi2 A := (s_content hJ hC hQ1 ic_no ic_boat ic_wish e1 e2).2
  have z_wish : c_wish τ gi2 gr gi2 A := (c_wish.fr hC1 hQ2 hn0 (th_Mod.rf (M := [])) (th_dj rfl) (th_dj rfl) d_wish)
  have z_stay : c_eq 11 9 20 gi2 gi2 A := (c_eq.fr (th_mem rfl) rfl hC hQ hmn hmn (th_nz rfl) (th_nm rfl) (th_nm rfl) b_stay)
  have d_wnb : c_wnb gi2 A := (wnb_content hQ1 ic_wnb e2)
  have z_wnb : c_wnb gi2 A := (c_wnb.fr hQ2 (th_Mod.rf (M := [])) (th_dj rfl) d_wnb)
  have z_core : c_core τ gi2 gr gi2 A := (c_core.fr hC hQ hmn hmn (th_dj rfl) (th_dj rfl) b_core)
  have z_rate : c_eq 11 8 23 gi2 gi2 A := (c_eq.fr (th_mem rfl) rfl hC hQ hmn hmn (th_nz rfl) (th_nm rfl) (th_nm rfl) b_rate)
  exact ⟨hC2, hQ2, z_no, z_nb, z_boat, z_tid, z_buoy, z_sl, z_least, z_rep, z_win, z_way, z_wish, z_stay, z_wnb, z_core, z_rate⟩

set_option maxHeartbeats 2000000 in
theorem sim_ring {Z : th_Zt} {τ : th_t} {gi gi1 gi2 : th_i} {gr gr1 gr2 : th_r} {A : Nat → Nat} {v1 r1 r2 : Int32} (hJ : th_J τ gi gr) (hJ1 : th_J τ gi1 gr1) (hv : Rel Z τ gi gr gi gr A) (hw1 : th_Mod [603, 2800, 2900, 3600] τ gi gr gi1 gr1 ∧ gr1 = gr ∧ (F_X11_ring τ Z gi gr (A 11) v1 = (r1, gi1))) (hw2 : th_Mod [5900, 6500, 6600, 6700] τ gi1 gr1 gi2 gr2 ∧ gr2 = gr1 ∧ (F_X12_ring τ Z gi1 gr1 (A 12) v1 = (r2, gi2))) : Rel Z τ gi2 gr2 gi2 gr2 A := by
  obtain ⟨hC, hQ, b_no, b_nb, b_boat, b_tid, b_buoy, b_sl, b_least, b_rep, b_win, b_way, b_wish, b_stay, b_wnb, b_core, b_rate⟩ := hv
  obtain rfl : gr = gr1 := (hw1.2.1).symm
  obtain rfl : gr = gr2 := (hw2.2.1).symm
  have hm : th_Mod [603, 2800, 2900, 3600] τ gi gr gi1 gr := hw1.1
  have hn0 : th_Mod [5900, 6500, 6600, 6700] τ gi1 gr gi2 gr := hw2.1
  have hn := hn0
  have hmn : th_Mod [603, 2800, 2900, 3600, 5900, 6500, 6600, 6700] τ gi gr gi2 gr := hm.tr hn (th_sub rfl) (th_sub rfl)
  have hQ1 : ro_M τ gr A := hQ.mod hm (rm_okE (by decide +kernel))
  have hC1 : ro_C τ gr A := hC.mod hm (rc_okE (by decide +kernel))
  have hC2 : ro_C τ gr A := hC.mod hmn (rc_okE (by decide +kernel))
  have hQ2 : ro_M τ gr A := hQ.mod hmn (rm_okE (by decide +kernel))
  have e1 := hw1.2.2
  have e2 := hw2.2.2
  have z_no : c_eq 1 6 8 gi2 gi2 A := (c_eq.fr (th_mem rfl) rfl hC hQ hmn hmn (th_nz rfl) (th_nm rfl) (th_nm rfl) b_no)
  have z_nb : c_eq 1 5 0 gi2 gi2 A := (c_eq.fr (th_mem rfl) rfl hC hQ hmn hmn (th_nz rfl) (th_nm rfl) (th_nm rfl) b_nb)
  have z_boat : c_boat τ gi2 gr gi2 A := (c_boat.fr hC hQ hmn hmn (th_dj rfl) (th_dj rfl) b_boat)
  have z_tid : c_tid gi2 gi2 A := (c_tid.fr hC hQ hmn hmn (by decide) (by decide) b_tid)
  have z_buoy : c_buoy τ gi2 gr gi2 A := (c_buoy.fr hC hQ hmn hmn (th_dj rfl) (th_dj rfl) b_buoy)
  have z_sl : c_sl τ gi2 gr A := (c_sl.fr hC hmn (th_dj rfl) b_sl)
  have z_least : c_least gi2 A := (c_least.fr hC hmn (th_dj rfl) b_least)
  have z_rep : c_rep gi2 A := (c_rep.fr hC hmn (th_dj rfl) b_rep)
  have z_win : c_eq 1 7 14 gi2 gi2 A := (c_eq.fr (th_mem rfl) rfl hC hQ hmn hmn (th_nz rfl) (th_nm rfl) (th_nm rfl) b_win)
  have z_way : c_way Z gi2 A := (c_way.fr hQ hmn (th_dj rfl) b_way)
  have z_wish : c_wish τ gi2 gr gi2 A := (c_wish.fr hC hQ hmn hmn (th_dj rfl) (th_dj rfl) b_wish)
  have z_stay : c_eq 11 9 20 gi2 gi2 A := (c_eq.fr (th_mem rfl) rfl hC hQ hmn hmn (th_nz rfl) (th_nm rfl) (th_nm rfl) b_stay)
  have z_wnb : c_wnb gi2 A := (c_wnb.fr hQ hmn (th_dj rfl) b_wnb)
  have z_core : c_core τ gi2 gr gi2 A := (c_core.fr hC hQ hmn hmn (th_dj rfl) (th_dj rfl) b_core)
  have z_rate : c_eq 11 8 23 gi2 gi2 A := (c_eq.fr (th_mem rfl) rfl hC hQ hmn hmn (th_nz rfl) (th_nm rfl) (th_nm rfl) b_rate)
  exact ⟨hC2, hQ2, z_no, z_nb, z_boat, z_tid, z_buoy, z_sl, z_least, z_rep, z_win, z_way, z_wish, z_stay, z_wnb, z_core, z_rate⟩

set_option maxHeartbeats 2000000 in
theorem sim_swap {Z : th_Zt} {τ : th_t} {gi gi1 gi2 : th_i} {gr gr1 gr2 : th_r} {A : Nat → Nat} {r1 r2 : Int32} (hJ : th_J τ gi gr) (hJ1 : th_J τ gi1 gr1) (hv : Rel Z τ gi gr gi gr A) (hw1 : th_Mod [404, 603, 804, 904, 2400, 2500, 2800, 2900] τ gi gr gi1 gr1 ∧ gr1 = gr ∧ (F_X11_swap τ Z gi gr (A 11) = (r1, gi1))) (hw2 : th_Mod [4600, 5000, 5600, 6500, 6600, 6700] τ gi1 gr1 gi2 gr2 ∧ gr2 = gr1 ∧ (F_X12_swap τ Z gi1 gr1 (A 12) = (r2, gi2))) : Rel Z τ gi2 gr2 gi2 gr2 A := by
  obtain ⟨hC, hQ, b_no, b_nb, b_boat, b_tid, b_buoy, b_sl, b_least, b_rep, b_win, b_way, b_wish, b_stay, b_wnb, b_core, b_rate⟩ := hv
  obtain rfl : gr = gr1 := (hw1.2.1).symm
  obtain rfl : gr = gr2 := (hw2.2.1).symm
  have hm : th_Mod [404, 603, 804, 904, 2400, 2500, 2800, 2900] τ gi gr gi1 gr := hw1.1
  have hn0 : th_Mod [4600, 5000, 5600, 6500, 6600, 6700] τ gi1 gr gi2 gr := hw2.1
  have hn := hn0
  have hmn : th_Mod [404, 603, 804, 904, 2400, 2500, 2800, 2900, 4600, 5000, 5600, 6500, 6600, 6700] τ gi gr gi2 gr := hm.tr hn (th_sub rfl) (th_sub rfl)
  have hQ1 : ro_M τ gr A := hQ.mod hm (rm_okE (by decide +kernel))
  have hC1 : ro_C τ gr A := hC.mod hm (rc_okE (by decide +kernel))
  have hC2 : ro_C τ gr A := hC.mod hmn (rc_okE (by decide +kernel))
  have hQ2 : ro_M τ gr A := hQ.mod hmn (rm_okE (by decide +kernel))
  have e1 := hw1.2.2
  have e2 := hw2.2.2
  have ic_no : c_eq 1 6 8 gi gi1 A := (c_eq.fr (th_mem rfl) rfl hC hQ (th_Mod.rf (M := [])) hm (th_nz rfl) (th_nm rfl) (th_nm rfl) b_no)
  have ic_nb : c_eq 1 5 0 gi gi1 A := (c_eq.fr (th_mem rfl) rfl hC hQ (th_Mod.rf (M := [])) hm (th_nz rfl) (th_nm rfl) (th_nm rfl) b_nb)
  have ic_boat : c_boat τ gi gr gi1 A := (c_boat.fr hC hQ (th_Mod.rf (M := [])) hm (th_dj rfl) (th_dj rfl) b_boat)
  have ic_tid : c_tid gi gi1 A := (c_tid.fr hC hQ (th_Mod.rf (M := [])) hm (by decide) (by decide) b_tid)
  have ic_buoy : c_buoy τ gi gr gi1 A := (c_buoy.fr hC hQ (th_Mod.rf (M := [])) hm (th_dj rfl) (th_dj rfl) b_buoy)
  have ic_sl : c_sl τ gi gr A := (c_sl.fr hC (th_Mod.rf (M := [])) (th_dj rfl) b_sl)
  have ic_least : c_least gi A := (c_least.fr hC (th_Mod.rf (M := [])) (th_dj rfl) b_least)
  have ic_rep : c_rep gi A := (c_rep.fr hC (th_Mod.rf (M := [])) (th_dj rfl) b_rep)
  have ic_win : c_eq 1 7 14 gi gi1 A := (c_eq.fr (th_mem rfl) rfl hC hQ (th_Mod.rf (M := [])) hm (th_nz rfl) (th_nm rfl) (th_nm rfl) b_win)
  have ic_way : c_way Z gi1 A := (c_way.fr hQ hm (th_dj rfl) b_way)
  have ic_wish : c_wish τ gi gr gi1 A := (c_wish.fr hC hQ (th_Mod.rf (M := [])) hm (th_dj rfl) (th_dj rfl) b_wish)
  have ic_stay : c_eq 11 9 20 gi gi1 A := (c_eq.fr (th_mem rfl) rfl hC hQ (th_Mod.rf (M := [])) hm (th_nz rfl) (th_nm rfl) (th_nm rfl) b_stay)
  have ic_wnb : c_wnb gi1 A := (c_wnb.fr hQ hm (th_dj rfl) b_wnb)
  have ic_core : c_core τ gi gr gi1 A := (c_core.fr hC hQ (th_Mod.rf (M := [])) hm (th_dj rfl) (th_dj rfl) b_core)
  have ic_rate : c_eq 11 8 23 gi gi1 A := (c_eq.fr (th_mem rfl) rfl hC hQ (th_Mod.rf (M := [])) hm (th_nz rfl) (th_nm rfl) (th_nm rfl) b_rate)
  have z_no : c_eq 1 6 8 gi2 gi2 A := (c_eq.fr (th_mem rfl) rfl hC hQ hmn hmn (th_nz rfl) (th_nm rfl) (th_nm rfl) b_no)
  have z_nb : c_eq 1 5 0 gi2 gi2 A := (c_eq.fr (th_mem rfl) rfl hC hQ hmn hmn (th_nz rfl) (th_nm rfl) (th_nm rfl) b_nb)
  have z_boat : c_boat τ gi2 gr gi2 A := (c_boat.fr hC hQ hmn hmn (th_dj rfl) (th_dj rfl) b_boat)
  have z_tid : c_tid gi2 gi2 A := (c_tid.fr hC hQ hmn hmn (by decide) (by decide) b_tid)
  have z_buoy : c_buoy τ gi2 gr gi2 A := (c_buoy.fr hC hQ hmn hmn (th_dj rfl) (th_dj rfl) b_buoy)
  have z_sl : c_sl τ gi2 gr A := (c_sl.fr hC hmn (th_dj rfl) b_sl)
  have z_least : c_least gi2 A := (c_least.fr hC hmn (th_dj rfl) b_least)
  have z_rep : c_rep gi2 A := (c_rep.fr hC hmn (th_dj rfl) b_rep)
  have z_win : c_eq 1 7 14 gi2 gi2 A := (c_eq.fr (th_mem rfl) rfl hC hQ hmn hmn (th_nz rfl) (th_nm rfl) (th_nm rfl) b_win)
  have z_way : c_way Z gi2 A := (c_way.fr hQ hmn (th_dj rfl) b_way)
  have d_wish : c_wish τ gi1 gr gi2 A := (s_swapW hJ hJ1 hC hQ1 ic_no ic_wish hm hn (by decide) e1 e2)
  have z_wish : c_wish τ gi2 gr gi2 A := (c_wish.fr hC1 hQ2 hn0 (th_Mod.rf (M := [])) (th_dj rfl) (th_dj rfl) d_wish)
  have z_stay : c_eq 11 9 20 gi2 gi2 A := (c_eq.fr (th_mem rfl) rfl hC hQ hmn hmn (th_nz rfl) (th_nm rfl) (th_nm rfl) b_stay)
  have d_wnb : c_wnb gi2 A := (s_swap ⟨hJ, hJ1, hC, hQ1, ic_no, ic_nb, ic_win, ic_boat, ic_buoy, ic_tid, ic_sl, ic_least, ic_rep, ic_way⟩ ic_core ic_wish ic_wnb hm hn (by decide) (by decide) e1 e2).2.2
  have z_wnb : c_wnb gi2 A := (c_wnb.fr hQ2 (th_Mod.rf (M := [])) (th_dj rfl) d_wnb)
  have d_core : c_core τ gi1 gr gi2 A := (s_swap ⟨hJ, hJ1, hC, hQ1, ic_no, ic_nb, ic_win, ic_boat, ic_buoy, ic_tid, ic_sl, ic_least, ic_rep, ic_way⟩ ic_core ic_wish ic_wnb hm hn (by decide) (by decide) e1 e2).2.1
  have z_core : c_core τ gi2 gr gi2 A := (c_core.fr hC1 hQ2 hn0 (th_Mod.rf (M := [])) (th_dj rfl) (th_dj rfl) d_core)
  have z_rate : c_eq 11 8 23 gi2 gi2 A := (c_eq.fr (th_mem rfl) rfl hC hQ hmn hmn (th_nz rfl) (th_nm rfl) (th_nm rfl) b_rate)
  exact ⟨hC2, hQ2, z_no, z_nb, z_boat, z_tid, z_buoy, z_sl, z_least, z_rep, z_win, z_way, z_wish, z_stay, z_wnb, z_core, z_rate⟩

set_option maxHeartbeats 2000000 in
theorem sim_years {Z : th_Zt} {τ : th_t} {gi gi1 gi2 : th_i} {gr gr1 gr2 : th_r} {A : Nat → Nat} {v1 r1 r2 : Int32} (hJ : th_J τ gi gr) (hJ1 : th_J τ gi1 gr1) (hv : Rel Z τ gi gr gi gr A) (hw1 : th_Mod [306, 307, 3600] τ gi gr gi1 gr1 ∧ gr1 = gr ∧ (F_X11_years τ Z gi gr (A 11) v1 = (r1, gi1))) (hw2 : th_Mod [4400, 4500, 5900] τ gi1 gr1 gi2 gr2 ∧ gr2 = gr1 ∧ (F_X12_years τ Z gi1 gr1 (A 12) v1 = (r2, gi2))) : Rel Z τ gi2 gr2 gi2 gr2 A := by
  obtain ⟨hC, hQ, b_no, b_nb, b_boat, b_tid, b_buoy, b_sl, b_least, b_rep, b_win, b_way, b_wish, b_stay, b_wnb, b_core, b_rate⟩ := hv
  obtain rfl : gr = gr1 := (hw1.2.1).symm
  obtain rfl : gr = gr2 := (hw2.2.1).symm
  have hm : th_Mod [306, 307, 3600] τ gi gr gi1 gr := hw1.1
  have hn0 : th_Mod [4400, 4500, 5900] τ gi1 gr gi2 gr := hw2.1
  have hn := hn0
  have hmn : th_Mod [306, 307, 3600, 4400, 4500, 5900] τ gi gr gi2 gr := hm.tr hn (th_sub rfl) (th_sub rfl)
  have hQ1 : ro_M τ gr A := hQ.mod hm (rm_okE (by decide +kernel))
  have hC1 : ro_C τ gr A := hC.mod hm (rc_okE (by decide +kernel))
  have hC2 : ro_C τ gr A := hC.mod hmn (rc_okE (by decide +kernel))
  have hQ2 : ro_M τ gr A := hQ.mod hmn (rm_okE (by decide +kernel))
  have e1 := hw1.2.2
  have e2 := hw2.2.2
  have z_no : c_eq 1 6 8 gi2 gi2 A := (c_eq.fr (th_mem rfl) rfl hC hQ hmn hmn (th_nz rfl) (th_nm rfl) (th_nm rfl) b_no)
  have z_nb : c_eq 1 5 0 gi2 gi2 A := (c_eq.fr (th_mem rfl) rfl hC hQ hmn hmn (th_nz rfl) (th_nm rfl) (th_nm rfl) b_nb)
  have z_boat : c_boat τ gi2 gr gi2 A := (c_boat.fr hC hQ hmn hmn (th_dj rfl) (th_dj rfl) b_boat)
  have z_tid : c_tid gi2 gi2 A := (c_tid.fr hC hQ hmn hmn (by decide) (by decide) b_tid)
  have z_buoy : c_buoy τ gi2 gr gi2 A := (c_buoy.fr hC hQ hmn hmn (th_dj rfl) (th_dj rfl) b_buoy)
  have z_sl : c_sl τ gi2 gr A := (c_sl.fr hC hmn (th_dj rfl) b_sl)
  have z_least : c_least gi2 A := (c_least.fr hC hmn (th_dj rfl) b_least)
  have z_rep : c_rep gi2 A := (c_rep.fr hC hmn (th_dj rfl) b_rep)
  have z_win : c_eq 1 7 14 gi2 gi2 A := (c_eq.fr (th_mem rfl) rfl hC hQ hmn hmn (th_nz rfl) (th_nm rfl) (th_nm rfl) b_win)
  have z_way : c_way Z gi2 A := (c_way.fr hQ hmn (th_dj rfl) b_way)
  have z_wish : c_wish τ gi2 gr gi2 A := (c_wish.fr hC hQ hmn hmn (th_dj rfl) (th_dj rfl) b_wish)
  have z_stay : c_eq 11 9 20 gi2 gi2 A := (c_eq.fr (th_mem rfl) rfl hC hQ hmn hmn (th_nz rfl) (th_nm rfl) (th_nm rfl) b_stay)
  have z_wnb : c_wnb gi2 A := (c_wnb.fr hQ hmn (th_dj rfl) b_wnb)
  have z_core : c_core τ gi2 gr gi2 A := (c_core.fr hC hQ hmn hmn (th_dj rfl) (th_dj rfl) b_core)
  have z_rate : c_eq 11 8 23 gi2 gi2 A := (c_eq.fr (th_mem rfl) rfl hC hQ hmn hmn (th_nz rfl) (th_nm rfl) (th_nm rfl) b_rate)
  exact ⟨hC2, hQ2, z_no, z_nb, z_boat, z_tid, z_buoy, z_sl, z_least, z_rep, z_win, z_way, z_wish, z_stay, z_wnb, z_core, z_rate⟩

set_option maxHeartbeats 2000000 in
theorem sim_look {Z : th_Zt} {τ : th_t} {gi gi1 gi2 : th_i} {gr gr1 gr2 : th_r} {A : Nat → Nat} {v1 v2 v3 r1 r2 : Int32} (hJ : th_J τ gi gr) (hJ1 : th_J τ gi1 gr1) (hv : Rel Z τ gi gr gi gr A) (hw1 : th_Mod [306, 307, 3600] τ gi gr gi1 gr1 ∧ gr1 = gr ∧ (F_X11_look τ Z gi gr (A 11) v1 v2 v3 = (r1, gi1))) (hw2 : th_Mod [4400, 4500, 5900] τ gi1 gr1 gi2 gr2 ∧ gr2 = gr1 ∧ (F_X12_look τ Z gi1 gr1 (A 12) v1 v2 v3 = (r2, gi2))) : Rel Z τ gi2 gr2 gi2 gr2 A := by
  obtain ⟨hC, hQ, b_no, b_nb, b_boat, b_tid, b_buoy, b_sl, b_least, b_rep, b_win, b_way, b_wish, b_stay, b_wnb, b_core, b_rate⟩ := hv
  obtain rfl : gr = gr1 := (hw1.2.1).symm
  obtain rfl : gr = gr2 := (hw2.2.1).symm
  have hm : th_Mod [306, 307, 3600] τ gi gr gi1 gr := hw1.1
  have hn0 : th_Mod [4400, 4500, 5900] τ gi1 gr gi2 gr := hw2.1
  have hn := hn0
  have hmn : th_Mod [306, 307, 3600, 4400, 4500, 5900] τ gi gr gi2 gr := hm.tr hn (th_sub rfl) (th_sub rfl)
  have hQ1 : ro_M τ gr A := hQ.mod hm (rm_okE (by decide +kernel))
  have hC1 : ro_C τ gr A := hC.mod hm (rc_okE (by decide +kernel))
  have hC2 : ro_C τ gr A := hC.mod hmn (rc_okE (by decide +kernel))
  have hQ2 : ro_M τ gr A := hQ.mod hmn (rm_okE (by decide +kernel))
  have e1 := hw1.2.2
  have e2 := hw2.2.2
  have z_no : c_eq 1 6 8 gi2 gi2 A := (c_eq.fr (th_mem rfl) rfl hC hQ hmn hmn (th_nz rfl) (th_nm rfl) (th_nm rfl) b_no)
  have z_nb : c_eq 1 5 0 gi2 gi2 A := (c_eq.fr (th_mem rfl) rfl hC hQ hmn hmn (th_nz rfl) (th_nm rfl) (th_nm rfl) b_nb)
  have z_boat : c_boat τ gi2 gr gi2 A := (c_boat.fr hC hQ hmn hmn (th_dj rfl) (th_dj rfl) b_boat)
  have z_tid : c_tid gi2 gi2 A := (c_tid.fr hC hQ hmn hmn (by decide) (by decide) b_tid)
  have z_buoy : c_buoy τ gi2 gr gi2 A := (c_buoy.fr hC hQ hmn hmn (th_dj rfl) (th_dj rfl) b_buoy)
  have z_sl : c_sl τ gi2 gr A := (c_sl.fr hC hmn (th_dj rfl) b_sl)
  have z_least : c_least gi2 A := (c_least.fr hC hmn (th_dj rfl) b_least)
  have z_rep : c_rep gi2 A := (c_rep.fr hC hmn (th_dj rfl) b_rep)
  have z_win : c_eq 1 7 14 gi2 gi2 A := (c_eq.fr (th_mem rfl) rfl hC hQ hmn hmn (th_nz rfl) (th_nm rfl) (th_nm rfl) b_win)
  have z_way : c_way Z gi2 A := (c_way.fr hQ hmn (th_dj rfl) b_way)
  have z_wish : c_wish τ gi2 gr gi2 A := (c_wish.fr hC hQ hmn hmn (th_dj rfl) (th_dj rfl) b_wish)
  have z_stay : c_eq 11 9 20 gi2 gi2 A := (c_eq.fr (th_mem rfl) rfl hC hQ hmn hmn (th_nz rfl) (th_nm rfl) (th_nm rfl) b_stay)
  have z_wnb : c_wnb gi2 A := (c_wnb.fr hQ hmn (th_dj rfl) b_wnb)
  have z_core : c_core τ gi2 gr gi2 A := (c_core.fr hC hQ hmn hmn (th_dj rfl) (th_dj rfl) b_core)
  have z_rate : c_eq 11 8 23 gi2 gi2 A := (c_eq.fr (th_mem rfl) rfl hC hQ hmn hmn (th_nz rfl) (th_nm rfl) (th_nm rfl) b_rate)
  exact ⟨hC2, hQ2, z_no, z_nb, z_boat, z_tid, z_buoy, z_sl, z_least, z_rep, z_win, z_way, z_wish, z_stay, z_wnb, z_core, z_rate⟩

set_option maxHeartbeats 2000000 in
theorem sim_next {Z : th_Zt} {τ : th_t} {gi gi1 gi2 : th_i} {gr gr1 gr2 : th_r} {A : Nat → Nat} {r1 r2 : Int32} (hJ : th_J τ gi gr) (hJ1 : th_J τ gi1 gr1) (hv : Rel Z τ gi gr gi gr A) (hw1 : th_Mod [3600] τ gi gr gi1 gr1 ∧ gr1 = gr ∧ (F_X11_next τ Z gi gr (A 11) = (r1, gi1))) (hw2 : th_Mod [5900] τ gi1 gr1 gi2 gr2 ∧ gr2 = gr1 ∧ (F_X12_next τ Z gi1 gr1 (A 12) = (r2, gi2))) : Rel Z τ gi2 gr2 gi2 gr2 A := by
  obtain ⟨hC, hQ, b_no, b_nb, b_boat, b_tid, b_buoy, b_sl, b_least, b_rep, b_win, b_way, b_wish, b_stay, b_wnb, b_core, b_rate⟩ := hv
  obtain rfl : gr = gr1 := (hw1.2.1).symm
  obtain rfl : gr = gr2 := (hw2.2.1).symm
  have hm : th_Mod [3600] τ gi gr gi1 gr := hw1.1
  have hn0 : th_Mod [5900] τ gi1 gr gi2 gr := hw2.1
  have hn := hn0
  have hmn : th_Mod [3600, 5900] τ gi gr gi2 gr := hm.tr hn (th_sub rfl) (th_sub rfl)
  have hQ1 : ro_M τ gr A := hQ.mod hm (rm_okE (by decide +kernel))
  have hC1 : ro_C τ gr A := hC.mod hm (rc_okE (by decide +kernel))
  have hC2 : ro_C τ gr A := hC.mod hmn (rc_okE (by decide +kernel))
  have hQ2 : ro_M τ gr A := hQ.mod hmn (rm_okE (by decide +kernel))
  have e1 := hw1.2.2
  have e2 := hw2.2.2
  have z_no : c_eq 1 6 8 gi2 gi2 A := (c_eq.fr (th_mem rfl) rfl hC hQ hmn hmn (th_nz rfl) (th_nm rfl) (th_nm rfl) b_no)
  have z_nb : c_eq 1 5 0 gi2 gi2 A := (c_eq.fr (th_mem rfl) rfl hC hQ hmn hmn (th_nz rfl) (th_nm rfl) (th_nm rfl) b_nb)
  have z_boat : c_boat τ gi2 gr gi2 A := (c_boat.fr hC hQ hmn hmn (th_dj rfl) (th_dj rfl) b_boat)
  have z_tid : c_tid gi2 gi2 A := (c_tid.fr hC hQ hmn hmn (by decide) (by decide) b_tid)
  have z_buoy : c_buoy τ gi2 gr gi2 A := (c_buoy.fr hC hQ hmn hmn (th_dj rfl) (th_dj rfl) b_buoy)
  have z_sl : c_sl τ gi2 gr A := (c_sl.fr hC hmn (th_dj rfl) b_sl)
  have z_least : c_least gi2 A := (c_least.fr hC hmn (th_dj rfl) b_least)
  have z_rep : c_rep gi2 A := (c_rep.fr hC hmn (th_dj rfl) b_rep)
  have z_win : c_eq 1 7 14 gi2 gi2 A := (c_eq.fr (th_mem rfl) rfl hC hQ hmn hmn (th_nz rfl) (th_nm rfl) (th_nm rfl) b_win)
  have z_way : c_way Z gi2 A := (c_way.fr hQ hmn (th_dj rfl) b_way)
  have z_wish : c_wish τ gi2 gr gi2 A := (c_wish.fr hC hQ hmn hmn (th_dj rfl) (th_dj rfl) b_wish)
  have z_stay : c_eq 11 9 20 gi2 gi2 A := (c_eq.fr (th_mem rfl) rfl hC hQ hmn hmn (th_nz rfl) (th_nm rfl) (th_nm rfl) b_stay)
  have z_wnb : c_wnb gi2 A := (c_wnb.fr hQ hmn (th_dj rfl) b_wnb)
  have z_core : c_core τ gi2 gr gi2 A := (c_core.fr hC hQ hmn hmn (th_dj rfl) (th_dj rfl) b_core)
  have z_rate : c_eq 11 8 23 gi2 gi2 A := (c_eq.fr (th_mem rfl) rfl hC hQ hmn hmn (th_nz rfl) (th_nm rfl) (th_nm rfl) b_rate)
  exact ⟨hC2, hQ2, z_no, z_nb, z_boat, z_tid, z_buoy, z_sl, z_least, z_rep, z_win, z_way, z_wish, z_stay, z_wnb, z_core, z_rate⟩

set_option maxHeartbeats 2000000 in
theorem sim_renew {Z : th_Zt} {τ : th_t} {gi gi1 gi2 : th_i} {gr gr1 gr2 : th_r} {A : Nat → Nat} {v1 r1 r2 : Int32} (hJ : th_J τ gi gr) (hJ1 : th_J τ gi1 gr1) (hv : Rel Z τ gi gr gi gr A) (hw1 : th_Mod [306, 307, 3600] τ gi gr gi1 gr1 ∧ gr1 = gr ∧ (F_X11_renew τ Z gi gr (A 11) v1 = (r1, gi1))) (hw2 : th_Mod [4400, 4500, 5900] τ gi1 gr1 gi2 gr2 ∧ gr2 = gr1 ∧ (F_X12_renew τ Z gi1 gr1 (A 12) v1 = (r2, gi2))) : Rel Z τ gi2 gr2 gi2 gr2 A := by
  obtain ⟨hC, hQ, b_no, b_nb, b_boat, b_tid, b_buoy, b_sl, b_least, b_rep, b_win, b_way, b_wish, b_stay, b_wnb, b_core, b_rate⟩ := hv
  obtain rfl : gr = gr1 := (hw1.2.1).symm
  obtain rfl : gr = gr2 := (hw2.2.1).symm
  have hm : th_Mod [306, 307, 3600] τ gi gr gi1 gr := hw1.1
  have hn0 : th_Mod [4400, 4500, 5900] τ gi1 gr gi2 gr := hw2.1
  have hn := hn0
  have hmn : th_Mod [306, 307, 3600, 4400, 4500, 5900] τ gi gr gi2 gr := hm.tr hn (th_sub rfl) (th_sub rfl)
  have hQ1 : ro_M τ gr A := hQ.mod hm (rm_okE (by decide +kernel))
  have hC1 : ro_C τ gr A := hC.mod hm (rc_okE (by decide +kernel))
  have hC2 : ro_C τ gr A := hC.mod hmn (rc_okE (by decide +kernel))
  have hQ2 : ro_M τ gr A := hQ.mod hmn (rm_okE (by decide +kernel))
  have e1 := hw1.2.2
  have e2 := hw2.2.2
  have z_no : c_eq 1 6 8 gi2 gi2 A := (c_eq.fr (th_mem rfl) rfl hC hQ hmn hmn (th_nz rfl) (th_nm rfl) (th_nm rfl) b_no)
  have z_nb : c_eq 1 5 0 gi2 gi2 A := (c_eq.fr (th_mem rfl) rfl hC hQ hmn hmn (th_nz rfl) (th_nm rfl) (th_nm rfl) b_nb)
  have z_boat : c_boat τ gi2 gr gi2 A := (c_boat.fr hC hQ hmn hmn (th_dj rfl) (th_dj rfl) b_boat)
  have z_tid : c_tid gi2 gi2 A := (c_tid.fr hC hQ hmn hmn (by decide) (by decide) b_tid)
  have z_buoy : c_buoy τ gi2 gr gi2 A := (c_buoy.fr hC hQ hmn hmn (th_dj rfl) (th_dj rfl) b_buoy)
  have z_sl : c_sl τ gi2 gr A := (c_sl.fr hC hmn (th_dj rfl) b_sl)
  have z_least : c_least gi2 A := (c_least.fr hC hmn (th_dj rfl) b_least)
  have z_rep : c_rep gi2 A := (c_rep.fr hC hmn (th_dj rfl) b_rep)
  have z_win : c_eq 1 7 14 gi2 gi2 A := (c_eq.fr (th_mem rfl) rfl hC hQ hmn hmn (th_nz rfl) (th_nm rfl) (th_nm rfl) b_win)
  have z_way : c_way Z gi2 A := (c_way.fr hQ hmn (th_dj rfl) b_way)
  have z_wish : c_wish τ gi2 gr gi2 A := (c_wish.fr hC hQ hmn hmn (th_dj rfl) (th_dj rfl) b_wish)
  have z_stay : c_eq 11 9 20 gi2 gi2 A := (c_eq.fr (th_mem rfl) rfl hC hQ hmn hmn (th_nz rfl) (th_nm rfl) (th_nm rfl) b_stay)
  have z_wnb : c_wnb gi2 A := (c_wnb.fr hQ hmn (th_dj rfl) b_wnb)
  have z_core : c_core τ gi2 gr gi2 A := (c_core.fr hC hQ hmn hmn (th_dj rfl) (th_dj rfl) b_core)
  have z_rate : c_eq 11 8 23 gi2 gi2 A := (c_eq.fr (th_mem rfl) rfl hC hQ hmn hmn (th_nz rfl) (th_nm rfl) (th_nm rfl) b_rate)
  exact ⟨hC2, hQ2, z_no, z_nb, z_boat, z_tid, z_buoy, z_sl, z_least, z_rep, z_win, z_way, z_wish, z_stay, z_wnb, z_core, z_rate⟩

set_option maxHeartbeats 2000000 in
theorem sim_storm {Z : th_Zt} {τ : th_t} {gi gi1 gi2 : th_i} {gr gr1 gr2 : th_r} {A : Nat → Nat} {v1 r1 r2 : Int32} (hJ : th_J τ gi gr) (hJ1 : th_J τ gi1 gr1) (hv : Rel Z τ gi gr gi gr A) (hw1 : th_Mod [502, 2400, 2500, 3600] τ gi gr gi1 gr1 ∧ gr1 = gr ∧ (F_X11_storm τ Z gi gr (A 11) v1 = (r1, gi1))) (hw2 : th_Mod [5900, 6800] τ gi1 gr1 gi2 gr2 ∧ gr2 = gr1 ∧ (F_X12_storm τ Z gi1 gr1 (A 12) v1 = (r2, gi2))) : Rel Z τ gi2 gr2 gi2 gr2 A := by
  obtain ⟨hC, hQ, b_no, b_nb, b_boat, b_tid, b_buoy, b_sl, b_least, b_rep, b_win, b_way, b_wish, b_stay, b_wnb, b_core, b_rate⟩ := hv
  obtain rfl : gr = gr1 := (hw1.2.1).symm
  obtain rfl : gr = gr2 := (hw2.2.1).symm
  have hm : th_Mod [502, 2400, 2500, 3600] τ gi gr gi1 gr := hw1.1
  have hn0 : th_Mod [5900, 6800] τ gi1 gr gi2 gr := hw2.1
  have hn := hn0
  have hmn : th_Mod [502, 2400, 2500, 3600, 5900, 6800] τ gi gr gi2 gr := hm.tr hn (th_sub rfl) (th_sub rfl)
  have hQ1 : ro_M τ gr A := hQ.mod hm (rm_okE (by decide +kernel))
  have hC1 : ro_C τ gr A := hC.mod hm (rc_okE (by decide +kernel))
  have hC2 : ro_C τ gr A := hC.mod hmn (rc_okE (by decide +kernel))
  have hQ2 : ro_M τ gr A := hQ.mod hmn (rm_okE (by decide +kernel))
  have e1 := hw1.2.2
  have e2 := hw2.2.2
  have ic_no : c_eq 1 6 8 gi gi1 A := (c_eq.fr (th_mem rfl) rfl hC hQ (th_Mod.rf (M := [])) hm (th_nz rfl) (th_nm rfl) (th_nm rfl) b_no)
  have ic_nb : c_eq 1 5 0 gi gi1 A := (c_eq.fr (th_mem rfl) rfl hC hQ (th_Mod.rf (M := [])) hm (th_nz rfl) (th_nm rfl) (th_nm rfl) b_nb)
  have ic_boat : c_boat τ gi gr gi1 A := (c_boat.fr hC hQ (th_Mod.rf (M := [])) hm (th_dj rfl) (th_dj rfl) b_boat)
  have ic_tid : c_tid gi gi1 A := (c_tid.fr hC hQ (th_Mod.rf (M := [])) hm (by decide) (by decide) b_tid)
  have ic_buoy : c_buoy τ gi gr gi1 A := (c_buoy.fr hC hQ (th_Mod.rf (M := [])) hm (th_dj rfl) (th_dj rfl) b_buoy)
  have ic_sl : c_sl τ gi gr A := (c_sl.fr hC (th_Mod.rf (M := [])) (th_dj rfl) b_sl)
  have ic_least : c_least gi A := (c_least.fr hC (th_Mod.rf (M := [])) (th_dj rfl) b_least)
  have ic_rep : c_rep gi A := (c_rep.fr hC (th_Mod.rf (M := [])) (th_dj rfl) b_rep)
  have ic_win : c_eq 1 7 14 gi gi1 A := (c_eq.fr (th_mem rfl) rfl hC hQ (th_Mod.rf (M := [])) hm (th_nz rfl) (th_nm rfl) (th_nm rfl) b_win)
  have ic_way : c_way Z gi1 A := (c_way.fr hQ hm (th_dj rfl) b_way)
  have ic_wish : c_wish τ gi gr gi1 A := (c_wish.fr hC hQ (th_Mod.rf (M := [])) hm (th_dj rfl) (th_dj rfl) b_wish)
  have ic_stay : c_eq 11 9 20 gi gi1 A := (c_eq.fr (th_mem rfl) rfl hC hQ (th_Mod.rf (M := [])) hm (th_nz rfl) (th_nm rfl) (th_nm rfl) b_stay)
  have ic_wnb : c_wnb gi1 A := (c_wnb.fr hQ hm (th_dj rfl) b_wnb)
  have ic_core : c_core τ gi gr gi1 A := (c_core.fr hC hQ (th_Mod.rf (M := [])) hm (th_dj rfl) (th_dj rfl) b_core)
  have ic_rate : c_eq 11 8 23 gi gi1 A := (c_eq.fr (th_mem rfl) rfl hC hQ (th_Mod.rf (M := [])) hm (th_nz rfl) (th_nm rfl) (th_nm rfl) b_rate)
  have z_no : c_eq 1 6 8 gi2 gi2 A := (c_eq.fr (th_mem rfl) rfl hC hQ hmn hmn (th_nz rfl) (th_nm rfl) (th_nm rfl) b_no)
  have z_nb : c_eq 1 5 0 gi2 gi2 A := (c_eq.fr (th_mem rfl) rfl hC hQ hmn hmn (th_nz rfl) (th_nm rfl) (th_nm rfl) b_nb)
  have z_boat : c_boat τ gi2 gr gi2 A := (c_boat.fr hC hQ hmn hmn (th_dj rfl) (th_dj rfl) b_boat)
  have z_tid : c_tid gi2 gi2 A := (c_tid.fr hC hQ hmn hmn (by decide) (by decide) b_tid)
  have z_buoy : c_buoy τ gi2 gr gi2 A := (c_buoy.fr hC hQ hmn hmn (th_dj rfl) (th_dj rfl) b_buoy)
  have z_sl : c_sl τ gi2 gr A := (c_sl.fr hC hmn (th_dj rfl) b_sl)
  have z_least : c_least gi2 A := (c_least.fr hC hmn (th_dj rfl) b_least)
  have z_rep : c_rep gi2 A := (c_rep.fr hC hmn (th_dj rfl) b_rep)
  have z_win : c_eq 1 7 14 gi2 gi2 A := (c_eq.fr (th_mem rfl) rfl hC hQ hmn hmn (th_nz rfl) (th_nm rfl) (th_nm rfl) b_win)
  have z_way : c_way Z gi2 A := (c_way.fr hQ hmn (th_dj rfl) b_way)
  have z_wish : c_wish τ gi2 gr gi2 A := (c_wish.fr hC hQ hmn hmn (th_dj rfl) (th_dj rfl) b_wish)
  have z_stay : c_eq 11 9 20 gi2 gi2 A := (c_eq.fr (th_mem rfl) rfl hC hQ hmn hmn (th_nz rfl) (th_nm rfl) (th_nm rfl) b_stay)
  have z_wnb : c_wnb gi2 A := (c_wnb.fr hQ hmn (th_dj rfl) b_wnb)
  have d_core : c_core τ gi1 gr gi2 A := (c_core.sto hC hQ1 hm hn (by decide) (by decide) (st_k hC e1).1 (st_k hC e1).2 ic_core)
  have z_core : c_core τ gi2 gr gi2 A := (c_core.fr hC1 hQ2 hn0 (th_Mod.rf (M := [])) (th_dj rfl) (th_dj rfl) d_core)
  have z_rate : c_eq 11 8 23 gi2 gi2 A := (c_eq.fr (th_mem rfl) rfl hC hQ hmn hmn (th_nz rfl) (th_nm rfl) (th_nm rfl) b_rate)
  exact ⟨hC2, hQ2, z_no, z_nb, z_boat, z_tid, z_buoy, z_sl, z_least, z_rep, z_win, z_way, z_wish, z_stay, z_wnb, z_core, z_rate⟩

set_option maxHeartbeats 2000000 in
theorem sim_fled {Z : th_Zt} {τ : th_t} {gi gi1 gi2 : th_i} {gr gr1 gr2 : th_r} {A : Nat → Nat} {v1 v2 r1 r2 : Int32} (hJ : th_J τ gi gr) (hJ1 : th_J τ gi1 gr1) (hv : Rel Z τ gi gr gi gr A) (hw1 : th_Mod [502, 2400, 2500, 3600] τ gi gr gi1 gr1 ∧ gr1 = gr ∧ (F_X11_fled τ Z gi gr (A 11) v1 v2 = (r1, gi1))) (hw2 : th_Mod [5900, 6800] τ gi1 gr1 gi2 gr2 ∧ gr2 = gr1 ∧ (F_X12_fled τ Z gi1 gr1 (A 12) v1 v2 = (r2, gi2))) : Rel Z τ gi2 gr2 gi2 gr2 A := by
  obtain ⟨hC, hQ, b_no, b_nb, b_boat, b_tid, b_buoy, b_sl, b_least, b_rep, b_win, b_way, b_wish, b_stay, b_wnb, b_core, b_rate⟩ := hv
  obtain rfl : gr = gr1 := (hw1.2.1).symm
  obtain rfl : gr = gr2 := (hw2.2.1).symm
  have hm : th_Mod [502, 2400, 2500, 3600] τ gi gr gi1 gr := hw1.1
  have hn0 : th_Mod [5900, 6800] τ gi1 gr gi2 gr := hw2.1
  have hn := hn0
  have hmn : th_Mod [502, 2400, 2500, 3600, 5900, 6800] τ gi gr gi2 gr := hm.tr hn (th_sub rfl) (th_sub rfl)
  have hQ1 : ro_M τ gr A := hQ.mod hm (rm_okE (by decide +kernel))
  have hC1 : ro_C τ gr A := hC.mod hm (rc_okE (by decide +kernel))
  have hC2 : ro_C τ gr A := hC.mod hmn (rc_okE (by decide +kernel))
  have hQ2 : ro_M τ gr A := hQ.mod hmn (rm_okE (by decide +kernel))
  have e1 := hw1.2.2
  have e2 := hw2.2.2
  have ic_no : c_eq 1 6 8 gi gi1 A := (c_eq.fr (th_mem rfl) rfl hC hQ (th_Mod.rf (M := [])) hm (th_nz rfl) (th_nm rfl) (th_nm rfl) b_no)
  have ic_nb : c_eq 1 5 0 gi gi1 A := (c_eq.fr (th_mem rfl) rfl hC hQ (th_Mod.rf (M := [])) hm (th_nz rfl) (th_nm rfl) (th_nm rfl) b_nb)
  have ic_boat : c_boat τ gi gr gi1 A := (c_boat.fr hC hQ (th_Mod.rf (M := [])) hm (th_dj rfl) (th_dj rfl) b_boat)
  have ic_tid : c_tid gi gi1 A := (c_tid.fr hC hQ (th_Mod.rf (M := [])) hm (by decide) (by decide) b_tid)
  have ic_buoy : c_buoy τ gi gr gi1 A := (c_buoy.fr hC hQ (th_Mod.rf (M := [])) hm (th_dj rfl) (th_dj rfl) b_buoy)
  have ic_sl : c_sl τ gi gr A := (c_sl.fr hC (th_Mod.rf (M := [])) (th_dj rfl) b_sl)
  have ic_least : c_least gi A := (c_least.fr hC (th_Mod.rf (M := [])) (th_dj rfl) b_least)
  have ic_rep : c_rep gi A := (c_rep.fr hC (th_Mod.rf (M := [])) (th_dj rfl) b_rep)
  have ic_win : c_eq 1 7 14 gi gi1 A := (c_eq.fr (th_mem rfl) rfl hC hQ (th_Mod.rf (M := [])) hm (th_nz rfl) (th_nm rfl) (th_nm rfl) b_win)
  have ic_way : c_way Z gi1 A := (c_way.fr hQ hm (th_dj rfl) b_way)
  have ic_wish : c_wish τ gi gr gi1 A := (c_wish.fr hC hQ (th_Mod.rf (M := [])) hm (th_dj rfl) (th_dj rfl) b_wish)
  have ic_stay : c_eq 11 9 20 gi gi1 A := (c_eq.fr (th_mem rfl) rfl hC hQ (th_Mod.rf (M := [])) hm (th_nz rfl) (th_nm rfl) (th_nm rfl) b_stay)
  have ic_wnb : c_wnb gi1 A := (c_wnb.fr hQ hm (th_dj rfl) b_wnb)
  have ic_core : c_core τ gi gr gi1 A := (c_core.fr hC hQ (th_Mod.rf (M := [])) hm (th_dj rfl) (th_dj rfl) b_core)
  have ic_rate : c_eq 11 8 23 gi gi1 A := (c_eq.fr (th_mem rfl) rfl hC hQ (th_Mod.rf (M := [])) hm (th_nz rfl) (th_nm rfl) (th_nm rfl) b_rate)
  have z_no : c_eq 1 6 8 gi2 gi2 A := (c_eq.fr (th_mem rfl) rfl hC hQ hmn hmn (th_nz rfl) (th_nm rfl) (th_nm rfl) b_no)
  have z_nb : c_eq 1 5 0 gi2 gi2 A := (c_eq.fr (th_mem rfl) rfl hC hQ hmn hmn (th_nz rfl) (th_nm rfl) (th_nm rfl) b_nb)
  have z_boat : c_boat τ gi2 gr gi2 A := (c_boat.fr hC hQ hmn hmn (th_dj rfl) (th_dj rfl) b_boat)
  have z_tid : c_tid gi2 gi2 A := (c_tid.fr hC hQ hmn hmn (by decide) (by decide) b_tid)
  have z_buoy : c_buoy τ gi2 gr gi2 A := (c_buoy.fr hC hQ hmn hmn (th_dj rfl) (th_dj rfl) b_buoy)
  have z_sl : c_sl τ gi2 gr A := (c_sl.fr hC hmn (th_dj rfl) b_sl)
  have z_least : c_least gi2 A := (c_least.fr hC hmn (th_dj rfl) b_least)
  have z_rep : c_rep gi2 A := (c_rep.fr hC hmn (th_dj rfl) b_rep)
  have z_win : c_eq 1 7 14 gi2 gi2 A := (c_eq.fr (th_mem rfl) rfl hC hQ hmn hmn (th_nz rfl) (th_nm rfl) (th_nm rfl) b_win)
  have z_way : c_way Z gi2 A := (c_way.fr hQ hmn (th_dj rfl) b_way)
  have z_wish : c_wish τ gi2 gr gi2 A := (c_wish.fr hC hQ hmn hmn (th_dj rfl) (th_dj rfl) b_wish)
  have z_stay : c_eq 11 9 20 gi2 gi2 A := (c_eq.fr (th_mem rfl) rfl hC hQ hmn hmn (th_nz rfl) (th_nm rfl) (th_nm rfl) b_stay)
  have z_wnb : c_wnb gi2 A := (c_wnb.fr hQ hmn (th_dj rfl) b_wnb)
  have d_core : c_core τ gi1 gr gi2 A := (c_core.sto hC hQ1 hm hn (by decide) (by decide) (fl_k hC e1).1 (fl_k hC e1).2 ic_core)
  have z_core : c_core τ gi2 gr gi2 A := (c_core.fr hC1 hQ2 hn0 (th_Mod.rf (M := [])) (th_dj rfl) (th_dj rfl) d_core)
  have z_rate : c_eq 11 8 23 gi2 gi2 A := (c_eq.fr (th_mem rfl) rfl hC hQ hmn hmn (th_nz rfl) (th_nm rfl) (th_nm rfl) b_rate)
  exact ⟨hC2, hQ2, z_no, z_nb, z_boat, z_tid, z_buoy, z_sl, z_least, z_rep, z_win, z_way, z_wish, z_stay, z_wnb, z_core, z_rate⟩

set_option maxHeartbeats 2000000 in
theorem sim_rate {Z : th_Zt} {τ : th_t} {gi gi1 gi2 : th_i} {gr gr1 gr2 : th_r} {A : Nat → Nat} {v1 r1 r2 : Int32} (hJ : th_J τ gi gr) (hJ1 : th_J τ gi1 gr1) (hv : Rel Z τ gi gr gi gr A) (hw1 : th_Mod [1108, 3600] τ gi gr gi1 gr1 ∧ gr1 = gr ∧ (F_X11_rate τ Z gi gr (A 11) v1 = (r1, gi1)) ∧ (se_post 0 100 (gi (A 11) 8) (gi1 (A 11) 8) v1 r1)) (hw2 : th_Mod [1223, 5900] τ gi1 gr1 gi2 gr2 ∧ gr2 = gr1 ∧ (F_X12_rate τ Z gi1 gr1 (A 12) v1 = (r2, gi2)) ∧ (se_post 0 100 (gi1 (A 12) 23) (gi2 (A 12) 23) v1 r2)) : Rel Z τ gi2 gr2 gi2 gr2 A := by
  obtain ⟨hC, hQ, b_no, b_nb, b_boat, b_tid, b_buoy, b_sl, b_least, b_rep, b_win, b_way, b_wish, b_stay, b_wnb, b_core, b_rate⟩ := hv
  obtain rfl : gr = gr1 := (hw1.2.1).symm
  obtain rfl : gr = gr2 := (hw2.2.1).symm
  have hm : th_Mod [1108, 3600] τ gi gr gi1 gr := hw1.1
  have hn0 : th_Mod [1223, 5900] τ gi1 gr gi2 gr := hw2.1
  have hn := hn0
  have hmn : th_Mod [1108, 1223, 3600, 5900] τ gi gr gi2 gr := hm.tr hn (th_sub rfl) (th_sub rfl)
  have hQ1 : ro_M τ gr A := hQ.mod hm (rm_okE (by decide +kernel))
  have hC1 : ro_C τ gr A := hC.mod hm (rc_okE (by decide +kernel))
  have hC2 : ro_C τ gr A := hC.mod hmn (rc_okE (by decide +kernel))
  have hQ2 : ro_M τ gr A := hQ.mod hmn (rm_okE (by decide +kernel))
  have e1 := hw1.2.2.1
  have e2 := hw2.2.2.1
  have x1 := hw1.2.2.2
  have y1 := hw2.2.2.2
  have ic_no : c_eq 1 6 8 gi gi1 A := (c_eq.fr (th_mem rfl) rfl hC hQ (th_Mod.rf (M := [])) hm (th_nz rfl) (th_nm rfl) (th_nm rfl) b_no)
  have ic_nb : c_eq 1 5 0 gi gi1 A := (c_eq.fr (th_mem rfl) rfl hC hQ (th_Mod.rf (M := [])) hm (th_nz rfl) (th_nm rfl) (th_nm rfl) b_nb)
  have ic_boat : c_boat τ gi gr gi1 A := (c_boat.fr hC hQ (th_Mod.rf (M := [])) hm (th_dj rfl) (th_dj rfl) b_boat)
  have ic_tid : c_tid gi gi1 A := (c_tid.fr hC hQ (th_Mod.rf (M := [])) hm (by decide) (by decide) b_tid)
  have ic_buoy : c_buoy τ gi gr gi1 A := (c_buoy.fr hC hQ (th_Mod.rf (M := [])) hm (th_dj rfl) (th_dj rfl) b_buoy)
  have ic_sl : c_sl τ gi gr A := (c_sl.fr hC (th_Mod.rf (M := [])) (th_dj rfl) b_sl)
  have ic_least : c_least gi A := (c_least.fr hC (th_Mod.rf (M := [])) (th_dj rfl) b_least)
  have ic_rep : c_rep gi A := (c_rep.fr hC (th_Mod.rf (M := [])) (th_dj rfl) b_rep)
  have ic_win : c_eq 1 7 14 gi gi1 A := (c_eq.fr (th_mem rfl) rfl hC hQ (th_Mod.rf (M := [])) hm (th_nz rfl) (th_nm rfl) (th_nm rfl) b_win)
  have ic_way : c_way Z gi1 A := (c_way.fr hQ hm (th_dj rfl) b_way)
  have ic_wish : c_wish τ gi gr gi1 A := (c_wish.fr hC hQ (th_Mod.rf (M := [])) hm (th_dj rfl) (th_dj rfl) b_wish)
  have ic_stay : c_eq 11 9 20 gi gi1 A := (c_eq.fr (th_mem rfl) rfl hC hQ (th_Mod.rf (M := [])) hm (th_nz rfl) (th_nm rfl) (th_nm rfl) b_stay)
  have ic_wnb : c_wnb gi1 A := (c_wnb.fr hQ hm (th_dj rfl) b_wnb)
  have ic_core : c_core τ gi gr gi1 A := (c_core.fr hC hQ (th_Mod.rf (M := [])) hm (th_dj rfl) (th_dj rfl) b_core)
  have ic_rate : c_eq 11 8 23 gi gi1 A := (c_eq.fr (th_mem rfl) rfl hC hQ (th_Mod.rf (M := [])) hm (th_nz rfl) (th_nm rfl) (th_nm rfl) b_rate)
  have z_no : c_eq 1 6 8 gi2 gi2 A := (c_eq.fr (th_mem rfl) rfl hC hQ hmn hmn (th_nz rfl) (th_nm rfl) (th_nm rfl) b_no)
  have z_nb : c_eq 1 5 0 gi2 gi2 A := (c_eq.fr (th_mem rfl) rfl hC hQ hmn hmn (th_nz rfl) (th_nm rfl) (th_nm rfl) b_nb)
  have z_boat : c_boat τ gi2 gr gi2 A := (c_boat.fr hC hQ hmn hmn (th_dj rfl) (th_dj rfl) b_boat)
  have z_tid : c_tid gi2 gi2 A := (c_tid.fr hC hQ hmn hmn (by decide) (by decide) b_tid)
  have z_buoy : c_buoy τ gi2 gr gi2 A := (c_buoy.fr hC hQ hmn hmn (th_dj rfl) (th_dj rfl) b_buoy)
  have z_sl : c_sl τ gi2 gr A := (c_sl.fr hC hmn (th_dj rfl) b_sl)
  have z_least : c_least gi2 A := (c_least.fr hC hmn (th_dj rfl) b_least)
  have z_rep : c_rep gi2 A := (c_rep.fr hC hmn (th_dj rfl) b_rep)
  have z_win : c_eq 1 7 14 gi2 gi2 A := (c_eq.fr (th_mem rfl) rfl hC hQ hmn hmn (th_nz rfl) (th_nm rfl) (th_nm rfl) b_win)
  have z_way : c_way Z gi2 A := (c_way.fr hQ hmn (th_dj rfl) b_way)
  have z_wish : c_wish τ gi2 gr gi2 A := (c_wish.fr hC hQ hmn hmn (th_dj rfl) (th_dj rfl) b_wish)
  have z_stay : c_eq 11 9 20 gi2 gi2 A := (c_eq.fr (th_mem rfl) rfl hC hQ hmn hmn (th_nz rfl) (th_nm rfl) (th_nm rfl) b_stay)
  have z_wnb : c_wnb gi2 A := (c_wnb.fr hQ hmn (th_dj rfl) b_wnb)
  have z_core : c_core τ gi2 gr gi2 A := (c_core.fr hC hQ hmn hmn (th_dj rfl) (th_dj rfl) b_core)
  have d_rate : c_eq 11 8 23 gi1 gi2 A := (se_same x1 y1 ic_rate).2
  have z_rate : c_eq 11 8 23 gi2 gi2 A := (c_eq.fr (th_mem rfl) rfl hC1 hQ2 hn0 (th_Mod.rf (M := [])) (th_nz rfl) (th_nm rfl) (th_nm rfl) d_rate)
  exact ⟨hC2, hQ2, z_no, z_nb, z_boat, z_tid, z_buoy, z_sl, z_least, z_rep, z_win, z_way, z_wish, z_stay, z_wnb, z_core, z_rate⟩

set_option maxHeartbeats 2000000 in
theorem sim_dues {Z : th_Zt} {τ : th_t} {gi : th_i} {gr : th_r} {A : Nat → Nat} {r1 r2 : Int32} (hJ : th_J τ gi gr) (hJ1 : th_J τ gi gr) (hv : Rel Z τ gi gr gi gr A) (hw1 : (F_X11_dues τ Z gi gr (A 11) = r1)) (hw2 : (F_X12_dues τ Z gi gr (A 12) = r2)) : Rel Z τ gi gr gi gr A := by
  obtain ⟨hC, hQ, b_no, b_nb, b_boat, b_tid, b_buoy, b_sl, b_least, b_rep, b_win, b_way, b_wish, b_stay, b_wnb, b_core, b_rate⟩ := hv
  have hm : th_Mod [] τ gi gr gi gr := th_Mod.rf
  have hn0 : th_Mod [] τ gi gr gi gr := th_Mod.rf
  have hn := hn0
  have hmn : th_Mod [] τ gi gr gi gr := hm.tr hn (th_sub rfl) (th_sub rfl)
  have hQ1 : ro_M τ gr A := hQ.mod hm (rm_okE (by decide +kernel))
  have hC1 : ro_C τ gr A := hC.mod hm (rc_okE (by decide +kernel))
  have hC2 : ro_C τ gr A := hC.mod hmn (rc_okE (by decide +kernel))
  have hQ2 : ro_M τ gr A := hQ.mod hmn (rm_okE (by decide +kernel))
  have e1 := hw1
  have e2 := hw2
  have z_no : c_eq 1 6 8 gi gi A := (c_eq.fr (th_mem rfl) rfl hC hQ hmn hmn (th_nz rfl) (th_nm rfl) (th_nm rfl) b_no)
  have z_nb : c_eq 1 5 0 gi gi A := (c_eq.fr (th_mem rfl) rfl hC hQ hmn hmn (th_nz rfl) (th_nm rfl) (th_nm rfl) b_nb)
  have z_boat : c_boat τ gi gr gi A := (c_boat.fr hC hQ hmn hmn (th_dj rfl) (th_dj rfl) b_boat)
  have z_tid : c_tid gi gi A := (c_tid.fr hC hQ hmn hmn (by decide) (by decide) b_tid)
  have z_buoy : c_buoy τ gi gr gi A := (c_buoy.fr hC hQ hmn hmn (th_dj rfl) (th_dj rfl) b_buoy)
  have z_sl : c_sl τ gi gr A := (c_sl.fr hC hmn (th_dj rfl) b_sl)
  have z_least : c_least gi A := (c_least.fr hC hmn (th_dj rfl) b_least)
  have z_rep : c_rep gi A := (c_rep.fr hC hmn (th_dj rfl) b_rep)
  have z_win : c_eq 1 7 14 gi gi A := (c_eq.fr (th_mem rfl) rfl hC hQ hmn hmn (th_nz rfl) (th_nm rfl) (th_nm rfl) b_win)
  have z_way : c_way Z gi A := (c_way.fr hQ hmn (th_dj rfl) b_way)
  have z_wish : c_wish τ gi gr gi A := (c_wish.fr hC hQ hmn hmn (th_dj rfl) (th_dj rfl) b_wish)
  have z_stay : c_eq 11 9 20 gi gi A := (c_eq.fr (th_mem rfl) rfl hC hQ hmn hmn (th_nz rfl) (th_nm rfl) (th_nm rfl) b_stay)
  have z_wnb : c_wnb gi A := (c_wnb.fr hQ hmn (th_dj rfl) b_wnb)
  have z_core : c_core τ gi gr gi A := (c_core.fr hC hQ hmn hmn (th_dj rfl) (th_dj rfl) b_core)
  have z_rate : c_eq 11 8 23 gi gi A := (c_eq.fr (th_mem rfl) rfl hC hQ hmn hmn (th_nz rfl) (th_nm rfl) (th_nm rfl) b_rate)
  exact ⟨hC2, hQ2, z_no, z_nb, z_boat, z_tid, z_buoy, z_sl, z_least, z_rep, z_win, z_way, z_wish, z_stay, z_wnb, z_core, z_rate⟩

set_option maxHeartbeats 2000000 in
theorem sim_tell {Z : th_Zt} {τ : th_t} {gi gi1 gi2 : th_i} {gr gr1 gr2 : th_r} {A : Nat → Nat} {v1 r1 r2 : Int32} (hJ : th_J τ gi gr) (hJ1 : th_J τ gi1 gr1) (hv : Rel Z τ gi gr gi gr A) (hw1 : th_Mod [1107, 3600, 3700] τ gi gr gi1 gr1 ∧ gr1 = gr ∧ (F_X11_tell τ Z gi gr (A 11) v1 = (r1, gi1))) (hw2 : th_Mod [1224, 5800, 5900] τ gi1 gr1 gi2 gr2 ∧ gr2 = gr1 ∧ (F_X12_tell τ Z gi1 gr1 (A 12) v1 = (r2, gi2))) : Rel Z τ gi2 gr2 gi2 gr2 A := by
  obtain ⟨hC, hQ, b_no, b_nb, b_boat, b_tid, b_buoy, b_sl, b_least, b_rep, b_win, b_way, b_wish, b_stay, b_wnb, b_core, b_rate⟩ := hv
  obtain rfl : gr = gr1 := (hw1.2.1).symm
  obtain rfl : gr = gr2 := (hw2.2.1).symm
  have hm : th_Mod [1107, 3600, 3700] τ gi gr gi1 gr := hw1.1
  have hn0 : th_Mod [1224, 5800, 5900] τ gi1 gr gi2 gr := hw2.1
  have hn := hn0
  have hmn : th_Mod [1107, 1224, 3600, 3700, 5800, 5900] τ gi gr gi2 gr := hm.tr hn (th_sub rfl) (th_sub rfl)
  have hQ1 : ro_M τ gr A := hQ.mod hm (rm_okE (by decide +kernel))
  have hC1 : ro_C τ gr A := hC.mod hm (rc_okE (by decide +kernel))
  have hC2 : ro_C τ gr A := hC.mod hmn (rc_okE (by decide +kernel))
  have hQ2 : ro_M τ gr A := hQ.mod hmn (rm_okE (by decide +kernel))
  have e1 := hw1.2.2
  have e2 := hw2.2.2
  have z_no : c_eq 1 6 8 gi2 gi2 A := (c_eq.fr (th_mem rfl) rfl hC hQ hmn hmn (th_nz rfl) (th_nm rfl) (th_nm rfl) b_no)
  have z_nb : c_eq 1 5 0 gi2 gi2 A := (c_eq.fr (th_mem rfl) rfl hC hQ hmn hmn (th_nz rfl) (th_nm rfl) (th_nm rfl) b_nb)
  have z_boat : c_boat τ gi2 gr gi2 A := (c_boat.fr hC hQ hmn hmn (th_dj rfl) (th_dj rfl) b_boat)
  have z_tid : c_tid gi2 gi2 A := (c_tid.fr hC hQ hmn hmn (by decide) (by decide) b_tid)
  have z_buoy : c_buoy τ gi2 gr gi2 A := (c_buoy.fr hC hQ hmn hmn (th_dj rfl) (th_dj rfl) b_buoy)
  have z_sl : c_sl τ gi2 gr A := (c_sl.fr hC hmn (th_dj rfl) b_sl)
  have z_least : c_least gi2 A := (c_least.fr hC hmn (th_dj rfl) b_least)
  have z_rep : c_rep gi2 A := (c_rep.fr hC hmn (th_dj rfl) b_rep)
  have z_win : c_eq 1 7 14 gi2 gi2 A := (c_eq.fr (th_mem rfl) rfl hC hQ hmn hmn (th_nz rfl) (th_nm rfl) (th_nm rfl) b_win)
  have z_way : c_way Z gi2 A := (c_way.fr hQ hmn (th_dj rfl) b_way)
  have z_wish : c_wish τ gi2 gr gi2 A := (c_wish.fr hC hQ hmn hmn (th_dj rfl) (th_dj rfl) b_wish)
  have z_stay : c_eq 11 9 20 gi2 gi2 A := (c_eq.fr (th_mem rfl) rfl hC hQ hmn hmn (th_nz rfl) (th_nm rfl) (th_nm rfl) b_stay)
  have z_wnb : c_wnb gi2 A := (c_wnb.fr hQ hmn (th_dj rfl) b_wnb)
  have z_core : c_core τ gi2 gr gi2 A := (c_core.fr hC hQ hmn hmn (th_dj rfl) (th_dj rfl) b_core)
  have z_rate : c_eq 11 8 23 gi2 gi2 A := (c_eq.fr (th_mem rfl) rfl hC hQ hmn hmn (th_nz rfl) (th_nm rfl) (th_nm rfl) b_rate)
  exact ⟨hC2, hQ2, z_no, z_nb, z_boat, z_tid, z_buoy, z_sl, z_least, z_rep, z_win, z_way, z_wish, z_stay, z_wnb, z_core, z_rate⟩

set_option maxHeartbeats 2000000 in
theorem sim_check {Z : th_Zt} {τ : th_t} {gi gi1 gi2 : th_i} {gr gr1 gr2 : th_r} {A : Nat → Nat} {r1 r2 : Int32} (hJ : th_J τ gi gr) (hJ1 : th_J τ gi1 gr1) (hv : Rel Z τ gi gr gi gr A) (hw1 : th_Mod [603, 1107, 2800, 2900] τ gi gr gi1 gr1 ∧ gr1 = gr ∧ (F_X11_check τ Z gi gr (A 11) = (r1, gi1)) ∧ (gi1 (A 11) 7 = 0)) (hw2 : th_Mod [1224, 6500, 6600, 6700] τ gi1 gr1 gi2 gr2 ∧ gr2 = gr1 ∧ (F_X12_check τ Z gi1 gr1 (A 12) = (r2, gi2)) ∧ (gi2 (A 12) 24 = 0)) : Rel Z τ gi2 gr2 gi2 gr2 A := by
  obtain ⟨hC, hQ, b_no, b_nb, b_boat, b_tid, b_buoy, b_sl, b_least, b_rep, b_win, b_way, b_wish, b_stay, b_wnb, b_core, b_rate⟩ := hv
  obtain rfl : gr = gr1 := (hw1.2.1).symm
  obtain rfl : gr = gr2 := (hw2.2.1).symm
  have hm : th_Mod [603, 1107, 2800, 2900] τ gi gr gi1 gr := hw1.1
  have hn0 : th_Mod [1224, 6500, 6600, 6700] τ gi1 gr gi2 gr := hw2.1
  have hn := hn0
  have hmn : th_Mod [603, 1107, 1224, 2800, 2900, 6500, 6600, 6700] τ gi gr gi2 gr := hm.tr hn (th_sub rfl) (th_sub rfl)
  have hQ1 : ro_M τ gr A := hQ.mod hm (rm_okE (by decide +kernel))
  have hC1 : ro_C τ gr A := hC.mod hm (rc_okE (by decide +kernel))
  have hC2 : ro_C τ gr A := hC.mod hmn (rc_okE (by decide +kernel))
  have hQ2 : ro_M τ gr A := hQ.mod hmn (rm_okE (by decide +kernel))
  have e1 := hw1.2.2.1
  have e2 := hw2.2.2.1
  have x1 := hw1.2.2.2
  have y1 := hw2.2.2.2
  have z_no : c_eq 1 6 8 gi2 gi2 A := (c_eq.fr (th_mem rfl) rfl hC hQ hmn hmn (th_nz rfl) (th_nm rfl) (th_nm rfl) b_no)
  have z_nb : c_eq 1 5 0 gi2 gi2 A := (c_eq.fr (th_mem rfl) rfl hC hQ hmn hmn (th_nz rfl) (th_nm rfl) (th_nm rfl) b_nb)
  have z_boat : c_boat τ gi2 gr gi2 A := (c_boat.fr hC hQ hmn hmn (th_dj rfl) (th_dj rfl) b_boat)
  have z_tid : c_tid gi2 gi2 A := (c_tid.fr hC hQ hmn hmn (by decide) (by decide) b_tid)
  have z_buoy : c_buoy τ gi2 gr gi2 A := (c_buoy.fr hC hQ hmn hmn (th_dj rfl) (th_dj rfl) b_buoy)
  have z_sl : c_sl τ gi2 gr A := (c_sl.fr hC hmn (th_dj rfl) b_sl)
  have z_least : c_least gi2 A := (c_least.fr hC hmn (th_dj rfl) b_least)
  have z_rep : c_rep gi2 A := (c_rep.fr hC hmn (th_dj rfl) b_rep)
  have z_win : c_eq 1 7 14 gi2 gi2 A := (c_eq.fr (th_mem rfl) rfl hC hQ hmn hmn (th_nz rfl) (th_nm rfl) (th_nm rfl) b_win)
  have z_way : c_way Z gi2 A := (c_way.fr hQ hmn (th_dj rfl) b_way)
  have z_wish : c_wish τ gi2 gr gi2 A := (c_wish.fr hC hQ hmn hmn (th_dj rfl) (th_dj rfl) b_wish)
  have z_stay : c_eq 11 9 20 gi2 gi2 A := (c_eq.fr (th_mem rfl) rfl hC hQ hmn hmn (th_nz rfl) (th_nm rfl) (th_nm rfl) b_stay)
  have z_wnb : c_wnb gi2 A := (c_wnb.fr hQ hmn (th_dj rfl) b_wnb)
  have z_core : c_core τ gi2 gr gi2 A := (c_core.fr hC hQ hmn hmn (th_dj rfl) (th_dj rfl) b_core)
  have z_rate : c_eq 11 8 23 gi2 gi2 A := (c_eq.fr (th_mem rfl) rfl hC hQ hmn hmn (th_nz rfl) (th_nm rfl) (th_nm rfl) b_rate)
  exact ⟨hC2, hQ2, z_no, z_nb, z_boat, z_tid, z_buoy, z_sl, z_least, z_rep, z_win, z_way, z_wish, z_stay, z_wnb, z_core, z_rate⟩

set_option maxHeartbeats 2000000 in
theorem sim_count {Z : th_Zt} {τ : th_t} {gi gi1 gi2 : th_i} {gr gr1 gr2 : th_r} {A : Nat → Nat} {v1 r1 r2 : Int32} (hJ : th_J τ gi gr) (hJ1 : th_J τ gi1 gr1) (hv : Rel Z τ gi gr gi gr A) (hw1 : th_Mod [3600] τ gi gr gi1 gr1 ∧ gr1 = gr ∧ (F_X11_count τ Z gi gr (A 11) v1 = (r1, gi1))) (hw2 : th_Mod [5900] τ gi1 gr1 gi2 gr2 ∧ gr2 = gr1 ∧ (F_X12_count τ Z gi1 gr1 (A 12) v1 = (r2, gi2))) : Rel Z τ gi2 gr2 gi2 gr2 A := by
  obtain ⟨hC, hQ, b_no, b_nb, b_boat, b_tid, b_buoy, b_sl, b_least, b_rep, b_win, b_way, b_wish, b_stay, b_wnb, b_core, b_rate⟩ := hv
  obtain rfl : gr = gr1 := (hw1.2.1).symm
  obtain rfl : gr = gr2 := (hw2.2.1).symm
  have hm : th_Mod [3600] τ gi gr gi1 gr := hw1.1
  have hn0 : th_Mod [5900] τ gi1 gr gi2 gr := hw2.1
  have hn := hn0
  have hmn : th_Mod [3600, 5900] τ gi gr gi2 gr := hm.tr hn (th_sub rfl) (th_sub rfl)
  have hQ1 : ro_M τ gr A := hQ.mod hm (rm_okE (by decide +kernel))
  have hC1 : ro_C τ gr A := hC.mod hm (rc_okE (by decide +kernel))
  have hC2 : ro_C τ gr A := hC.mod hmn (rc_okE (by decide +kernel))
  have hQ2 : ro_M τ gr A := hQ.mod hmn (rm_okE (by decide +kernel))
  have e1 := hw1.2.2
  have e2 := hw2.2.2
  have z_no : c_eq 1 6 8 gi2 gi2 A := (c_eq.fr (th_mem rfl) rfl hC hQ hmn hmn (th_nz rfl) (th_nm rfl) (th_nm rfl) b_no)
  have z_nb : c_eq 1 5 0 gi2 gi2 A := (c_eq.fr (th_mem rfl) rfl hC hQ hmn hmn (th_nz rfl) (th_nm rfl) (th_nm rfl) b_nb)
  have z_boat : c_boat τ gi2 gr gi2 A := (c_boat.fr hC hQ hmn hmn (th_dj rfl) (th_dj rfl) b_boat)
  have z_tid : c_tid gi2 gi2 A := (c_tid.fr hC hQ hmn hmn (by decide) (by decide) b_tid)
  have z_buoy : c_buoy τ gi2 gr gi2 A := (c_buoy.fr hC hQ hmn hmn (th_dj rfl) (th_dj rfl) b_buoy)
  have z_sl : c_sl τ gi2 gr A := (c_sl.fr hC hmn (th_dj rfl) b_sl)
  have z_least : c_least gi2 A := (c_least.fr hC hmn (th_dj rfl) b_least)
  have z_rep : c_rep gi2 A := (c_rep.fr hC hmn (th_dj rfl) b_rep)
  have z_win : c_eq 1 7 14 gi2 gi2 A := (c_eq.fr (th_mem rfl) rfl hC hQ hmn hmn (th_nz rfl) (th_nm rfl) (th_nm rfl) b_win)
  have z_way : c_way Z gi2 A := (c_way.fr hQ hmn (th_dj rfl) b_way)
  have z_wish : c_wish τ gi2 gr gi2 A := (c_wish.fr hC hQ hmn hmn (th_dj rfl) (th_dj rfl) b_wish)
  have z_stay : c_eq 11 9 20 gi2 gi2 A := (c_eq.fr (th_mem rfl) rfl hC hQ hmn hmn (th_nz rfl) (th_nm rfl) (th_nm rfl) b_stay)
  have z_wnb : c_wnb gi2 A := (c_wnb.fr hQ hmn (th_dj rfl) b_wnb)
  have z_core : c_core τ gi2 gr gi2 A := (c_core.fr hC hQ hmn hmn (th_dj rfl) (th_dj rfl) b_core)
  have z_rate : c_eq 11 8 23 gi2 gi2 A := (c_eq.fr (th_mem rfl) rfl hC hQ hmn hmn (th_nz rfl) (th_nm rfl) (th_nm rfl) b_rate)
  exact ⟨hC2, hQ2, z_no, z_nb, z_boat, z_tid, z_buoy, z_sl, z_least, z_rep, z_win, z_way, z_wish, z_stay, z_wnb, z_core, z_rate⟩

set_option maxHeartbeats 2000000 in
theorem sim_found {Z : th_Zt} {τ : th_t} {gi gi1 gi2 : th_i} {gr gr1 gr2 : th_r} {A : Nat → Nat} {v1 r1 r2 : Int32} (hJ : th_J τ gi gr) (hJ1 : th_J τ gi1 gr1) (hv : Rel Z τ gi gr gi gr A) (hw1 : th_Mod [3600] τ gi gr gi1 gr1 ∧ gr1 = gr ∧ (F_X11_found τ Z gi gr (A 11) v1 = (r1, gi1))) (hw2 : th_Mod [5900] τ gi1 gr1 gi2 gr2 ∧ gr2 = gr1 ∧ (F_X12_found τ Z gi1 gr1 (A 12) v1 = (r2, gi2))) : Rel Z τ gi2 gr2 gi2 gr2 A := by
  obtain ⟨hC, hQ, b_no, b_nb, b_boat, b_tid, b_buoy, b_sl, b_least, b_rep, b_win, b_way, b_wish, b_stay, b_wnb, b_core, b_rate⟩ := hv
  obtain rfl : gr = gr1 := (hw1.2.1).symm
  obtain rfl : gr = gr2 := (hw2.2.1).symm
  have hm : th_Mod [3600] τ gi gr gi1 gr := hw1.1
  have hn0 : th_Mod [5900] τ gi1 gr gi2 gr := hw2.1
  have hn := hn0
  have hmn : th_Mod [3600, 5900] τ gi gr gi2 gr := hm.tr hn (th_sub rfl) (th_sub rfl)
  have hQ1 : ro_M τ gr A := hQ.mod hm (rm_okE (by decide +kernel))
  have hC1 : ro_C τ gr A := hC.mod hm (rc_okE (by decide +kernel))
  have hC2 : ro_C τ gr A := hC.mod hmn (rc_okE (by decide +kernel))
  have hQ2 : ro_M τ gr A := hQ.mod hmn (rm_okE (by decide +kernel))
  have e1 := hw1.2.2
  have e2 := hw2.2.2
  have z_no : c_eq 1 6 8 gi2 gi2 A := (c_eq.fr (th_mem rfl) rfl hC hQ hmn hmn (th_nz rfl) (th_nm rfl) (th_nm rfl) b_no)
  have z_nb : c_eq 1 5 0 gi2 gi2 A := (c_eq.fr (th_mem rfl) rfl hC hQ hmn hmn (th_nz rfl) (th_nm rfl) (th_nm rfl) b_nb)
  have z_boat : c_boat τ gi2 gr gi2 A := (c_boat.fr hC hQ hmn hmn (th_dj rfl) (th_dj rfl) b_boat)
  have z_tid : c_tid gi2 gi2 A := (c_tid.fr hC hQ hmn hmn (by decide) (by decide) b_tid)
  have z_buoy : c_buoy τ gi2 gr gi2 A := (c_buoy.fr hC hQ hmn hmn (th_dj rfl) (th_dj rfl) b_buoy)
  have z_sl : c_sl τ gi2 gr A := (c_sl.fr hC hmn (th_dj rfl) b_sl)
  have z_least : c_least gi2 A := (c_least.fr hC hmn (th_dj rfl) b_least)
  have z_rep : c_rep gi2 A := (c_rep.fr hC hmn (th_dj rfl) b_rep)
  have z_win : c_eq 1 7 14 gi2 gi2 A := (c_eq.fr (th_mem rfl) rfl hC hQ hmn hmn (th_nz rfl) (th_nm rfl) (th_nm rfl) b_win)
  have z_way : c_way Z gi2 A := (c_way.fr hQ hmn (th_dj rfl) b_way)
  have z_wish : c_wish τ gi2 gr gi2 A := (c_wish.fr hC hQ hmn hmn (th_dj rfl) (th_dj rfl) b_wish)
  have z_stay : c_eq 11 9 20 gi2 gi2 A := (c_eq.fr (th_mem rfl) rfl hC hQ hmn hmn (th_nz rfl) (th_nm rfl) (th_nm rfl) b_stay)
  have z_wnb : c_wnb gi2 A := (c_wnb.fr hQ hmn (th_dj rfl) b_wnb)
  have z_core : c_core τ gi2 gr gi2 A := (c_core.fr hC hQ hmn hmn (th_dj rfl) (th_dj rfl) b_core)
  have z_rate : c_eq 11 8 23 gi2 gi2 A := (c_eq.fr (th_mem rfl) rfl hC hQ hmn hmn (th_nz rfl) (th_nm rfl) (th_nm rfl) b_rate)
  exact ⟨hC2, hQ2, z_no, z_nb, z_boat, z_tid, z_buoy, z_sl, z_least, z_rep, z_win, z_way, z_wish, z_stay, z_wnb, z_core, z_rate⟩
