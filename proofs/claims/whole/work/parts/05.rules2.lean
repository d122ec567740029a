section
variable {G : Gm} {R : Room} {mi : Mi} {Qf : Qfun} {kc ks pc : Nat} {lv lv2 : List (Nat × Value)} {st : List Value} {S : St}
theorem Wo.step {S S2 : St} {H H1 : Heap} (h : Wo G S H) (hP : va_P G.2.2.1 vwCl (cells G S2) H1) (hz : H1.size = H.size) (hs : S2.1 = S.1) : Wo G S2 H1 := ⟨hP, by rw [hz, hs]; exact h.2.1, by rw [hs]; exact h.2.2⟩
theorem WP.putI {index b : Nat} {x : Int32} (c j : Nat) (hw : Cond.fieldLink mi.2.2.2.2 index (cT c j).1 (cT c j).2.1 (cT c j).2.2.1 ∈ WS) (hc : c < 7) (hj : j < nF c) (hi : isI c j = true) (hsh : S.1[b]? = some (.inl c)) (hfin : (cT c j).2.2.2 = false) (hn : narrow (cY c j) (rv G (.int x)) = rv G (.int x)) (hf : fits (cY c j) (rv G (.int x)) = true) (hd : decode mi.2.1 pc = .ok (.putfield index, 3)) (k : WP G R mi Qf kc ks (pc + 3) lv st (S.1, S.2.1, up2 S.2.2 b j x)) : WP G R mi Qf kc ks pc lv (.int x :: .ref b :: st) S := by
  intro p e s m args below meth cd E H locs ls hW hS hl
  have eb : (gr G b) = G.2.1 + b := hW.gr hsh
  show W _ _ _ _ _ _ _ _ _ _ _ _ _ _ _ (F0 m pc ls (rv G (.int x) :: .ref (gr G b) :: st.map (rv G)))
  rw [eb]
  have hc2 := cells_set (G := G) (t' := S.2.1) (f' := up2 S.2.2 b j x) (e := .inr (c, ((List.range (nF c)).map fun j => fv G c j (S.2.1 b j) (S.2.2 b j)).set j (rv G (.int x)))) hsh
    (by
      rw [map_set_range]
      simp only [ce]
      refine congrArg (fun z => Sum.inr (c, z)) (List.map_congr_left fun i _ => ?_)
      by_cases hij : i = j
      · subst hij
        rw [if_pos rfl]
        simp [fv, hi, up2, upt, rv, va_rf]
      · rw [if_neg hij]
        simp [up2, upt, hij])
    (fun i hi => by first | rfl | (funext z; simp [upt, hi])) (fun i hi => by first | rfl | (funext z; simp [up2, hi]))
  have hts := E.2.2.2.2.2.1
  have hin' := cf_in hc
  have hK := E.2.2.2.2.2.2.2.2.1
  have hcl := cf_cl hc
  have hap := va_apart (own := mi.2.2.2.2) hts hin' (cY c) (cf_ty hc) (cf_nm hc) hK hcl
  obtain ⟨r, h1, cell, q1, q2, q3, q4⟩ := hW.1 b _ (cells_at hsh)
  have hr : r = (cN c, cT c, nF c) := Option.some.inj (h1.symm.trans hcl)
  subst hr
  obtain ⟨hSl, hfc, kC, hkC, hkind⟩ := hK.1 c _ hcl
  obtain ⟨cf, kf, fi, f, hif, hsl⟩ := hSl j hj
  have hlay := hts _ (hin' _ (u_in_lay hj))
  unfold u_lay at hlay
  rw [if_neg (by rw [hfin]; decide)] at hlay
  have hst := (u_facts hfc hkC (u_lays hts hin' hj) hif).1
  have h6 := u_store hfc hkC hkind hlay hif (cf_ty hc j hj) hn hf
  refine W.putK E.1 E.2.1 (f := f) ⟨E.2.2.2.2.1, E.2.2.2.2.2.1 _ hw, ⟨_, _, _, hif⟩, hst⟩ (by rw [q2]; exact h6) q1 q3 (by rw [hsl]; exact k2_hasslot (q4 j hj)) rfl rfl hd fun H1 e1 e2 e3 => ?_
  rw [hsl] at e1 ⊢
  have hP1 : va_P G.2.2.1 vwCl ((cells G S).set b (G.2.1 + b, .inr (c, ((List.range (nF c)).map fun j => fv G c j (S.2.1 b j) (S.2.2 b j)).set j (rv G (.int x))))) H1 := hW.1.set (cells_D G S) (cells_at hsh) ⟨_, hcl, t_OB.to (V := updV (vp_V _) j (rv G (.int x))) ⟨_, e1, q2, q3, t_set q4 hap hj _⟩ (fun i _ => vp_updV_set (by simpa using hj) _ i)⟩ e3
  rw [hc2] at hP1
  exact k p e s m args below meth cd E H1 _ ls (hW.step hP1 e2 rfl) (hS.put e2 e3 ((cells_D G S).2 b _ (cells_at hsh))) hl
theorem WP.putR {index b : Nat} {x : Nat} (c j : Nat) (hw : Cond.fieldLink mi.2.2.2.2 index (cT c j).1 (cT c j).2.1 (cT c j).2.2.1 ∈ WS) (hc : c < 7) (hj : j < nF c) (hi : isI c j = false) (hsh : S.1[b]? = some (.inl c)) (hfin : (cT c j).2.2.2 = false) (hn : narrow (cY c j) (rv G (.ref x)) = rv G (.ref x)) (hf : fits (cY c j) (rv G (.ref x)) = true) (hd : decode mi.2.1 pc = .ok (.putfield index, 3)) (k : WP G R mi Qf kc ks (pc + 3) lv st (S.1, upt S.2.1 b j (some x), S.2.2)) : WP G R mi Qf kc ks pc lv (.ref x :: .ref b :: st) S := by
  intro p e s m args below meth cd E H locs ls hW hS hl
  have eb : (gr G b) = G.2.1 + b := hW.gr hsh
  show W _ _ _ _ _ _ _ _ _ _ _ _ _ _ _ (F0 m pc ls (rv G (.ref x) :: .ref (gr G b) :: st.map (rv G)))
  rw [eb]
  have hc2 := cells_set (G := G) (t' := upt S.2.1 b j (some x)) (f' := S.2.2) (e := .inr (c, ((List.range (nF c)).map fun j => fv G c j (S.2.1 b j) (S.2.2 b j)).set j (rv G (.ref x)))) hsh
    (by
      rw [map_set_range]
      simp only [ce]
      refine congrArg (fun z => Sum.inr (c, z)) (List.map_congr_left fun i _ => ?_)
      by_cases hij : i = j
      · subst hij
        rw [if_pos rfl]
        simp [fv, hi, up2, upt, rv, va_rf]
      · rw [if_neg hij]
        simp [up2, upt, hij])
    (fun i hi => by first | rfl | (funext z; simp [upt, hi])) (fun i hi => by first | rfl | (funext z; simp [up2, hi]))
  have hts := E.2.2.2.2.2.1
  have hin' := cf_in hc
  have hK := E.2.2.2.2.2.2.2.2.1
  have hcl := cf_cl hc
  have hap := va_apart (own := mi.2.2.2.2) hts hin' (cY c) (cf_ty hc) (cf_nm hc) hK hcl
  obtain ⟨r, h1, cell, q1, q2, q3, q4⟩ := hW.1 b _ (cells_at hsh)
  have hr : r = (cN c, cT c, nF c) := Option.some.inj (h1.symm.trans hcl)
  subst hr
  obtain ⟨hSl, hfc, kC, hkC, hkind⟩ := hK.1 c _ hcl
  obtain ⟨cf, kf, fi, f, hif, hsl⟩ := hSl j hj
  have hlay := hts _ (hin' _ (u_in_lay hj))
  unfold u_lay at hlay
  rw [if_neg (by rw [hfin]; decide)] at hlay
  have hst := (u_facts hfc hkC (u_lays hts hin' hj) hif).1
  have h6 := u_store hfc hkC hkind hlay hif (cf_ty hc j hj) hn hf
  refine W.putK E.1 E.2.1 (f := f) ⟨E.2.2.2.2.1, E.2.2.2.2.2.1 _ hw, ⟨_, _, _, hif⟩, hst⟩ (by rw [q2]; exact h6) q1 q3 (by rw [hsl]; exact k2_hasslot (q4 j hj)) rfl rfl hd fun H1 e1 e2 e3 => ?_
  rw [hsl] at e1 ⊢
  have hP1 : va_P G.2.2.1 vwCl ((cells G S).set b (G.2.1 + b, .inr (c, ((List.range (nF c)).map fun j => fv G c j (S.2.1 b j) (S.2.2 b j)).set j (rv G (.ref x))))) H1 := hW.1.set (cells_D G S) (cells_at hsh) ⟨_, hcl, t_OB.to (V := updV (vp_V _) j (rv G (.ref x))) ⟨_, e1, q2, q3, t_set q4 hap hj _⟩ (fun i _ => vp_updV_set (by simpa using hj) _ i)⟩ e3
  rw [hc2] at hP1
  exact k p e s m args below meth cd E H1 _ ls (hW.step hP1 e2 rfl) (hS.put e2 e3 ((cells_D G S).2 b _ (cells_at hsh))) hl
theorem WP.putIN {index b : Nat} {x : Int32} {host : String} (c j : Nat) (hw : Cond.fieldLinkNest mi.2.2.2.2 index (cT c j).1 (cT c j).2.1 (cT c j).2.2.1 host ∈ NWS) (hc : c < 7) (hj : j < nF c) (hi : isI c j = true) (hsh : S.1[b]? = some (.inl c)) (hfin : (cT c j).2.2.2 = false) (hG : fl G = false) (hn : narrow (cY c j) (rv G (.int x)) = rv G (.int x)) (hf : fits (cY c j) (rv G (.int x)) = true) (hd : decode mi.2.1 pc = .ok (.putfield index, 3)) (k : WP G R mi Qf kc ks (pc + 3) lv st (S.1, S.2.1, up2 S.2.2 b j x)) : WP G R mi Qf kc ks pc lv (.int x :: .ref b :: st) S := by
  intro p e s m args below meth cd E H locs ls hW hS hl
  have eb : (gr G b) = G.2.1 + b := hW.gr hsh
  show W _ _ _ _ _ _ _ _ _ _ _ _ _ _ _ (F0 m pc ls (rv G (.int x) :: .ref (gr G b) :: st.map (rv G)))
  rw [eb]
  have hc2 := cells_set (G := G) (t' := S.2.1) (f' := up2 S.2.2 b j x) (e := .inr (c, ((List.range (nF c)).map fun j => fv G c j (S.2.1 b j) (S.2.2 b j)).set j (rv G (.int x)))) hsh
    (by
      rw [map_set_range]
      simp only [ce]
      refine congrArg (fun z => Sum.inr (c, z)) (List.map_congr_left fun i _ => ?_)
      by_cases hij : i = j
      · subst hij
        rw [if_pos rfl]
        simp [fv, hi, up2, upt, rv, va_rf]
      · rw [if_neg hij]
        simp [up2, upt, hij])
    (fun i hi => by first | rfl | (funext z; simp [upt, hi])) (fun i hi => by first | rfl | (funext z; simp [up2, hi]))
  refine va_putN E.1 E.2.1 E.2.2.2.2.2.1 (cf_in hc) (cY c) (cf_ty hc) (cf_nm hc) E.2.2.2.2.1 E.2.2.2.2.2.2.2.2.1 hW.1 (cells_D G S) hS b (cells_at hsh) (cf_cl hc) j hj (va_Nw.use rfl (E.2.2.2.2.2.2.2.2.2.1.2.2.2.2.2.2.2.2.2.2.2 _ hw)) (fun x h => h) hfin (cf_ty hc j hj) hn hf (by simpa using hj) hd (fun H1 locs1 hP1 hD1 hS1 => ?_)
  rw [hc2] at hP1
  exact k p e s m args below meth cd E H1 locs1 ls ⟨hP1, ⟨Nat.le_trans E.2.2.2.2.2.2.2.2.2.2 hS1.1, fun e => by rw [hG] at e; cases e⟩, hW.2.2⟩ hS1 hl
theorem WP.putIF {index b : Nat} {x : Int32} (c j : Nat) (hw : Cond.fieldLink mi.2.2.2.2 index (cT c j).1 (cT c j).2.1 (cT c j).2.2.1 ∈ WS) (hc : c < 7) (hj : j < nF c) (hi : isI c j = true) (hsh : S.1[b]? = some (.inl c)) (hfin : (cT c j).2.2.2 = true) (hin : mi.1.name = "<init>") (hdc : (cT c j).1 = mi.2.2.2.2) (hn : narrow (cY c j) (rv G (.int x)) = rv G (.int x)) (hf : fits (cY c j) (rv G (.int x)) = true) (hd : decode mi.2.1 pc = .ok (.putfield index, 3)) (k : WP G R mi Qf kc ks (pc + 3) lv st (S.1, S.2.1, up2 S.2.2 b j x)) : WP G R mi Qf kc ks pc lv (.int x :: .ref b :: st) S := by
  intro p e s m args below meth cd E H locs ls hW hS hl
  have eb : (gr G b) = G.2.1 + b := hW.gr hsh
  show W _ _ _ _ _ _ _ _ _ _ _ _ _ _ _ (F0 m pc ls (rv G (.int x) :: .ref (gr G b) :: st.map (rv G)))
  rw [eb]
  have hc2 := cells_set (G := G) (t' := S.2.1) (f' := up2 S.2.2 b j x) (e := .inr (c, ((List.range (nF c)).map fun j => fv G c j (S.2.1 b j) (S.2.2 b j)).set j (rv G (.int x)))) hsh
    (by
      rw [map_set_range]
      simp only [ce]
      refine congrArg (fun z => Sum.inr (c, z)) (List.map_congr_left fun i _ => ?_)
      by_cases hij : i = j
      · subst hij
        rw [if_pos rfl]
        simp [fv, hi, up2, upt, rv, va_rf]
      · rw [if_neg hij]
        simp [up2, upt, hij])
    (fun i hi => by first | rfl | (funext z; simp [upt, hi])) (fun i hi => by first | rfl | (funext z; simp [up2, hi]))
  have hts := E.2.2.2.2.2.1
  have hin' := cf_in hc
  have hK := E.2.2.2.2.2.2.2.2.1
  have hcl := cf_cl hc
  have hap := va_apart (own := mi.2.2.2.2) hts hin' (cY c) (cf_ty hc) (cf_nm hc) hK hcl
  obtain ⟨r, h1, cell, q1, q2, q3, q4⟩ := hW.1 b _ (cells_at hsh)
  have hr : r = (cN c, cT c, nF c) := Option.some.inj (h1.symm.trans hcl)
  subst hr
  obtain ⟨hSl, hfc, kC, hkC, hkind⟩ := hK.1 c _ hcl
  obtain ⟨cf, kf, fi, f, hif, hsl⟩ := hSl j hj
  have hlay := hts _ (hin' _ (u_in_lay hj))
  unfold u_lay at hlay
  rw [if_pos hfin] at hlay
  have hst := (u_facts hfc hkC (u_lays hts hin' hj) hif).1
  have hcf : m.cls = cf := by
    obtain ⟨_, _, c', _, _, _, -, -, hf', -, -, -, hown2, -⟩ := Cond.laysFinal_spec hlay
    have e1 : c' = cf := by have := hif.symm.trans hf'; simp at this; exact this.1.symm
    rw [hdc] at hown2
    rw [← e1]; exact Option.some.inj (E.2.2.2.2.1.symm.trans hown2)
  have h6 := u_fits hfc hkC hkind (Or.inr hlay) hif (cf_ty hc j hj) hn hf
  refine W.putFinK E.1 E.2.1 E.2.2.2.2.1 (E.2.2.2.2.2.1 _ hw) hif hst hcf (E.2.2.2.2.2.2.2.1.trans hin) (by rw [q2]; exact h6) q1 q3 (by rw [hsl]; exact k2_hasslot (q4 j hj)) rfl rfl hd fun H1 e1 e2 e3 => ?_
  rw [hsl] at e1 ⊢
  have hP1 : va_P G.2.2.1 vwCl ((cells G S).set b (G.2.1 + b, .inr (c, ((List.range (nF c)).map fun j => fv G c j (S.2.1 b j) (S.2.2 b j)).set j (rv G (.int x))))) H1 := hW.1.set (cells_D G S) (cells_at hsh) ⟨_, hcl, t_OB.to (V := updV (vp_V _) j (rv G (.int x))) ⟨_, e1, q2, q3, t_set q4 hap hj _⟩ (fun i _ => vp_updV_set (by simpa using hj) _ i)⟩ e3
  rw [hc2] at hP1
  exact k p e s m args below meth cd E H1 _ ls (hW.step hP1 e2 rfl) (hS.put e2 e3 ((cells_D G S).2 b _ (cells_at hsh))) hl
theorem WP.putRF {index b : Nat} {x : Nat} (c j : Nat) (hw : Cond.fieldLink mi.2.2.2.2 index (cT c j).1 (cT c j).2.1 (cT c j).2.2.1 ∈ WS) (hc : c < 7) (hj : j < nF c) (hi : isI c j = false) (hsh : S.1[b]? = some (.inl c)) (hfin : (cT c j).2.2.2 = true) (hin : mi.1.name = "<init>") (hdc : (cT c j).1 = mi.2.2.2.2) (hn : narrow (cY c j) (rv G (.ref x)) = rv G (.ref x)) (hf : fits (cY c j) (rv G (.ref x)) = true) (hd : decode mi.2.1 pc = .ok (.putfield index, 3)) (k : WP G R mi Qf kc ks (pc + 3) lv st (S.1, upt S.2.1 b j (some x), S.2.2)) : WP G R mi Qf kc ks pc lv (.ref x :: .ref b :: st) S := by
  intro p e s m args below meth cd E H locs ls hW hS hl
  have eb : (gr G b) = G.2.1 + b := hW.gr hsh
  show W _ _ _ _ _ _ _ _ _ _ _ _ _ _ _ (F0 m pc ls (rv G (.ref x) :: .ref (gr G b) :: st.map (rv G)))
  rw [eb]
  have hc2 := cells_set (G := G) (t' := upt S.2.1 b j (some x)) (f' := S.2.2) (e := .inr (c, ((List.range (nF c)).map fun j => fv G c j (S.2.1 b j) (S.2.2 b j)).set j (rv G (.ref x)))) hsh
    (by
      rw [map_set_range]
      simp only [ce]
      refine congrArg (fun z => Sum.inr (c, z)) (List.map_congr_left fun i _ => ?_)
      by_cases hij : i = j
      · subst hij
        rw [if_pos rfl]
        simp [fv, hi, up2, upt, rv, va_rf]
      · rw [if_neg hij]
        simp [up2, upt, hij])
    (fun i hi => by first | rfl | (funext z; simp [upt, hi])) (fun i hi => by first | rfl | (funext z; simp [up2, hi]))
  have hts := E.2.2.2.2.2.1
  have hin' := cf_in hc
  have hK := E.2.2.2.2.2.2.2.2.1
  have hcl := cf_cl hc
  have hap := va_apart (own := mi.2.2.2.2) hts hin' (cY c) (cf_ty hc) (cf_nm hc) hK hcl
  obtain ⟨r, h1, cell, q1, q2, q3, q4⟩ := hW.1 b _ (cells_at hsh)
  have hr : r = (cN c, cT c, nF c) := Option.some.inj (h1.symm.trans hcl)
  subst hr
  obtain ⟨hSl, hfc, kC, hkC, hkind⟩ := hK.1 c _ hcl
  obtain ⟨cf, kf, fi, f, hif, hsl⟩ := hSl j hj
  have hlay := hts _ (hin' _ (u_in_lay hj))
  unfold u_lay at hlay
  rw [if_pos hfin] at hlay
  have hst := (u_facts hfc hkC (u_lays hts hin' hj) hif).1
  have hcf : m.cls = cf := by
    obtain ⟨_, _, c', _, _, _, -, -, hf', -, -, -, hown2, -⟩ := Cond.laysFinal_spec hlay
    have e1 : c' = cf := by have := hif.symm.trans hf'; simp at this; exact this.1.symm
    rw [hdc] at hown2
    rw [← e1]; exact Option.some.inj (E.2.2.2.2.1.symm.trans hown2)
  have h6 := u_fits hfc hkC hkind (Or.inr hlay) hif (cf_ty hc j hj) hn hf
  refine W.putFinK E.1 E.2.1 E.2.2.2.2.1 (E.2.2.2.2.2.1 _ hw) hif hst hcf (E.2.2.2.2.2.2.2.1.trans hin) (by rw [q2]; exact h6) q1 q3 (by rw [hsl]; exact k2_hasslot (q4 j hj)) rfl rfl hd fun H1 e1 e2 e3 => ?_
  rw [hsl] at e1 ⊢
  have hP1 : va_P G.2.2.1 vwCl ((cells G S).set b (G.2.1 + b, .inr (c, ((List.range (nF c)).map fun j => fv G c j (S.2.1 b j) (S.2.2 b j)).set j (rv G (.ref x))))) H1 := hW.1.set (cells_D G S) (cells_at hsh) ⟨_, hcl, t_OB.to (V := updV (vp_V _) j (rv G (.ref x))) ⟨_, e1, q2, q3, t_set q4 hap hj _⟩ (fun i _ => vp_updV_set (by simpa using hj) _ i)⟩ e3
  rw [hc2] at hP1
  exact k p e s m args below meth cd E H1 _ ls (hW.step hP1 e2 rfl) (hS.put e2 e3 ((cells_D G S).2 b _ (cells_at hsh))) hl
def InB (i : Int32) (n : Nat) : Prop := vp_in i n
/-- an array read and written at an int -/
def rd (f : Nat → Int32) (i : Int32) : Int32 := f i.toNatClampNeg
def wr (f : Nat → Int32) (i x : Int32) : Nat → Int32 := fun j => if j = i.toNatClampNeg then x else f j
def upa (f : Mem) (k : Nat) (i x : Int32) : Mem := up2 f k i.toNatClampNeg x
theorem WP.iald {b n : Nat} {i : Int32} (hsh : S.1[b]? = some (.inr (0, n))) (hin : InB i n) (hd : decode mi.2.1 pc = .ok (.iaload, 1)) (k : WP G R mi Qf kc ks (pc + 1) lv (.int (rd (S.2.2 b) i) :: st) S) : WP G R mi Qf kc ks pc lv (.int i :: .ref b :: st) S := by
  intro p e s m args below meth c E H locs ls hW hS hl
  show W _ _ _ _ _ _ _ _ _ _ _ _ _ _ _ (F0 m pc ls (.int i :: .ref (gr G b) :: st.map (rv G)))
  rw [hW.gr hsh]
  exact va_iald E.1 E.2.1 E.2.2.2.2.2.2.2.2.1 hW.1 b 0 (cells_at hsh) rfl hin hd (k p e s m args below meth c E H locs ls hW hS hl)
theorem WP.aald {b n id : Nat} {i : Int32} (hsh : S.1[b]? = some (.inr (1, n))) (hin : InB i n) (ht : S.2.1 b i.toNatClampNeg = some id) (hd : decode mi.2.1 pc = .ok (.aaload, 1)) (k : WP G R mi Qf kc ks (pc + 1) lv (.ref id :: st) S) : WP G R mi Qf kc ks pc lv (.int i :: .ref b :: st) S := by
  intro p e s m args below meth c E H locs ls hW hS hl
  show W _ _ _ _ _ _ _ _ _ _ _ _ _ _ _ (F0 m pc ls (.int i :: .ref (gr G b) :: st.map (rv G)))
  rw [hW.gr hsh]
  refine va_aldq E.1 E.2.1 E.2.2.2.2.2.2.2.2.1 hW.1 b 1 (cells_at hsh) rfl hin hd ?_
  rw [ht]
  exact k p e s m args below meth c E H locs ls hW hS hl
theorem WP.alen {b t n : Nat} (v : Int32) (hsh : S.1[b]? = some (.inr (t, n))) (hv : Int32.ofNat n = v) (hd : decode mi.2.1 pc = .ok (.arraylength, 1)) (k : WP G R mi Qf kc ks (pc + 1) lv (.int v :: st) S) : WP G R mi Qf kc ks pc lv (.ref b :: st) S := by
  intro p e s m args below meth c E H locs ls hW hS hl
  show W _ _ _ _ _ _ _ _ _ _ _ _ _ _ _ (F0 m pc ls (.ref (gr G b) :: st.map (rv G)))
  rw [hW.gr hsh]
  cases t with
  | zero => exact va_alen E.1 E.2.1 E.2.2.2.2.2.2.2.2.1 hW.1 b 0 (cells_at hsh) rfl hv hd (k p e s m args below meth c E H locs ls hW hS hl)
  | succ t => exact va_alen E.1 E.2.1 E.2.2.2.2.2.2.2.2.1 hW.1 b 1 (cells_at hsh) rfl hv hd (k p e s m args below meth c E H locs ls hW hS hl)
theorem cells_seti {b n : Nat} {i : Nat} {x : Int32} (hsh : S.1[b]? = some (.inr (0, n))) : (cells G S).set b (G.2.1 + b, .inl (G.2.2.2.1.1, n, .inl (upd (S.2.2 b) i x))) = cells G (S.1, S.2.1, up2 S.2.2 b i x) :=
  cells_set (t' := S.2.1) (f' := up2 S.2.2 b i x) hsh (by
    have : upd (S.2.2 b) i x = up2 S.2.2 b i x b := by funext z; simp [upd, up2]
    rw [this]; rfl) (fun _ _ => rfl) (fun q hq => by funext z; simp [up2, hq])
theorem WP.iast {b n : Nat} {i x : Int32} (hsh : S.1[b]? = some (.inr (0, n))) (hin : InB i n) (hd : decode mi.2.1 pc = .ok (.iastore, 1)) (k : WP G R mi Qf kc ks (pc + 1) lv st (S.1, S.2.1, upa S.2.2 b i x)) : WP G R mi Qf kc ks pc lv (.int x :: .int i :: .ref b :: st) S := by
  intro p e s m args below meth c E H locs ls hW hS hl
  show W _ _ _ _ _ _ _ _ _ _ _ _ _ _ _ (F0 m pc ls (.int x :: .int i :: .ref (gr G b) :: st.map (rv G)))
  rw [hW.gr hsh]
  have ha : (cells G S)[b]? = some (G.2.1 + b, .inl (G.2.2.2.1.1, n, .inl (S.2.2 b))) := cells_at hsh
  have hlt : i.toNatClampNeg < n := Nat.not_le.mp fun q => hin (Or.inr q)
  have hK := E.2.2.2.2.2.2.2.2.1
  refine W.iast E.1 E.2.1 (hW.1 b _ ha) ((hK.2 0 _ rfl).1 n (fun j => .int (S.2.2 b j))) (fun q => by cases q) (by show ¬ (i < 0 ∨ (arrV _ _ _).slots.size ≤ _); rw [arrV_size]; exact hin) rfl rfl hd fun H1 e1 z oq => ?_
  have hP1 : va_P G.2.2.1 vwCl ((cells G S).set b (G.2.1 + b, .inl (G.2.2.2.1.1, n, .inl (upd (S.2.2 b) i.toNatClampNeg x)))) H1 := hW.1.set (cells_D G S) ha (by
    show H1[G.2.1 + b]? = some (vp_cell _ _)
    rw [e1, vp_cell_i, vp_cell_i, arrV_store]
    refine congrArg (fun z => some (arrV _ n z)) (funext fun q => ?_)
    by_cases hq : q = i.toNatClampNeg <;> simp [updV, upd, hq]) oq
  rw [cells_seti hsh] at hP1
  exact k p e s m args below meth c E H1 _ ls (hW.step hP1 z rfl) (hS.put z oq ((cells_D G S).2 b _ ha)) hl
theorem WP.aast {b n v c0 : Nat} {i : Int32} (hsh : S.1[b]? = some (.inr (1, n))) (hin : InB i n) (hv : S.1[v]? = some (.inl 2)) (hd : decode mi.2.1 pc = .ok (.aastore, 1)) (k : WP G R mi Qf kc ks (pc + 1) lv st (S.1, upt S.2.1 b i.toNatClampNeg (some v), S.2.2)) : WP G R mi Qf kc ks pc lv (.ref v :: .int i :: .ref b :: st) S := by
  intro p e s m args below meth c E H locs ls hW hS hl
  show W _ _ _ _ _ _ _ _ _ _ _ _ _ _ _ (F0 m pc ls (.ref (gr G v) :: .int i :: .ref (gr G b) :: st.map (rv G)))
  rw [hW.gr hsh, hW.gr hv]
  have ha : (cells G S)[b]? = some (G.2.1 + b, .inl (G.2.2.2.1.2, n, .inr (.inr (.inr (.inr fun j => (S.2.1 b j).map (gr G)))))) := cells_at hsh
  have hlt : i.toNatClampNeg < n := Nat.not_le.mp fun q => hin (Or.inr q)
  have hK := E.2.2.2.2.2.2.2.2.1
  have h0 : ¬ i < 0 := fun q => hin (Or.inl q)
  obtain ⟨r', hr', cellV, g1, g2, g3, -⟩ := hW.1 v _ (cells_at hv)
  have hcls := (hK.1 2 _ rfl).2
  obtain ⟨kA, comp, k1, k2, k3, -⟩ := (hK.2 1 _ rfl).2
  have hcomp : comp = G.2.2.1.1 2 := Option.some.inj (k3.symm.trans hcls.1)
  subst hcomp
  obtain ⟨kC, hkC, -⟩ := hcls.2
  refine W.aast E.1 E.2.1 (hW.1 b _ ha) (fun q h => by cases h) (fun h => by cases h) k1 k2 rfl hkC ⟨h0, by show _ < (arrV _ _ _).slots.size; rw [arrV_size]; exact hlt⟩ g1 (fun q h => by rw [g3] at h; cases h) (by rw [g2]; exact hkC) (by rw [g2]; exact va_assign hcls) rfl rfl hd fun H1 e1 z oq => ?_
  have hP1 : va_P G.2.2.1 vwCl ((cells G S).set b (G.2.1 + b, .inl (G.2.2.2.1.2, n, .inr (.inr (.inr (.inr (va_up (fun j => (S.2.1 b j).map (gr G)) i.toNatClampNeg (some (G.2.1 + v)))))))))  H1 := hW.1.set (cells_D G S) ha (by
    show H1[G.2.1 + b]? = some (vp_cell _ _)
    rw [e1, vp_cell_q, vp_cell_q, arrV_store]
    refine congrArg (fun z => some (arrV _ n z)) (funext fun q => ?_)
    by_cases hq : q = i.toNatClampNeg <;> simp [updV, va_up, va_rf, hq]) oq
  have hc2 := cells_set (G := G) (t' := upt S.2.1 b i.toNatClampNeg (some v)) (f' := S.2.2) (e := .inl (G.2.2.2.1.2, n, .inr (.inr (.inr (.inr (va_up (fun j => (S.2.1 b j).map (gr G)) i.toNatClampNeg (some (G.2.1 + v)))))))) hsh (by
    simp only [ce]
    refine congrArg (fun z => Sum.inl (G.2.2.2.1.2, n, Sum.inr (Sum.inr (Sum.inr (Sum.inr z))))) (funext fun q => ?_)
    by_cases hq : q = i.toNatClampNeg
    · simp [va_up, upt, hq, hW.gr hv]
    · simp [va_up, upt, hq]) (fun q hq => by funext z; simp [upt, hq]) (fun _ _ => rfl)
  rw [hc2] at hP1
  exact k p e s m args below meth c E H1 _ ls (hW.step hP1 z rfl) (hS.put z oq ((cells_D G S).2 b _ ha)) hl
/-! returns -/
theorem retQ {p : Program} {s : State} {m : MethodId} {args : Array Value} {meth : Method} {cd : Code} {K : Option Value → St → Prop} {H : Heap} {locs : List Loc} (E : En G mi p s m args meth cd) (hW : Wo G S H) (hS : va_S (gA G) s.heap H locs) (v : Option Value) (hK : K v S) : ∀ t : State, t.heap = H → s.WarmedH t.vm → QK G K args s (.returned (v.map (rv G))) t :=
  fun t ht hw => ⟨⟨v, S, rfl, hK, Wd.warm hw ht hS.2.1 hS.1 hW E.2.2.2.2.2.2.2.2.1 E.2.2.2.2.2.2.2.2.2.1⟩, hS.F ht⟩
theorem WP.iret {K : Option Value → St → Prop} {mc ms : Nat} {x : Int32} (hd : decode mi.2.1 pc = .ok (.ireturn, 1)) (hr : mi.2.2.2.1 = some .int) (hc : kc ≤ mc) (hs : ks ≤ ms) (k : K (some (.int x)) S) : WP G R mi (QfK G K mc ms) kc ks pc lv [.int x] S :=
  fun p e s m args below meth c E H locs ls hW hS hl => W.widen hc hs (W.iret E.1 E.2.1 (E.2.2.1.trans hr) (retQ E hW hS (some (.int x)) k) hS.2.2 hd (hlocks := E.2.2.2.2.2.2.1))
theorem WP.zret {K : Option Value → St → Prop} {mc ms : Nat} {x : Int32} (hd : decode mi.2.1 pc = .ok (.ireturn, 1)) (hr : mi.2.2.2.1 = some .boolean) (hc : kc ≤ mc) (hs : ks ≤ ms) (hn : narrow .boolean (.int x) = .int x) (k : K (some (.int x)) S) : WP G R mi (QfK G K mc ms) kc ks pc lv [.int x] S :=
  fun p e s m args below meth c E H locs ls hW hS hl => W.widen hc hs (W.zret E.1 E.2.1 (E.2.2.1.trans hr) hn (retQ E hW hS (some (.int x)) k) hS.2.2 hd (hlocks := E.2.2.2.2.2.2.1))
theorem WP.lret {K : Option Value → St → Prop} {mc ms : Nat} {x : Int64} (hd : decode mi.2.1 pc = .ok (.lreturn, 1)) (hr : mi.2.2.2.1 = some .long) (hc : kc ≤ mc) (hs : ks ≤ ms) (k : K (some (.long x)) S) : WP G R mi (QfK G K mc ms) kc ks pc lv [.long x] S :=
  fun p e s m args below meth c E H locs ls hW hS hl => W.widen hc hs (W.lret E.1 E.2.1 (E.2.2.1.trans hr) (retQ E hW hS (some (.long x)) k) hS.2.2 hd (hlocks := E.2.2.2.2.2.2.1))
theorem WP.aret {K : Option Value → St → Prop} {mc ms x : Nat} {C : String} (hd : decode mi.2.1 pc = .ok (.areturn, 1)) (hr : mi.2.2.2.1 = some (.object C)) (hc : kc ≤ mc) (hs : ks ≤ ms) (k : K (some (.ref x)) S) : WP G R mi (QfK G K mc ms) kc ks pc lv [.ref x] S :=
  fun p e s m args below meth c E H locs ls hW hS hl => W.widen hc hs (W.aret E.1 E.2.1 (E.2.2.1.trans hr) (Or.inl ⟨_, rfl⟩) (Or.inr ⟨_, rfl⟩) (retQ E hW hS (some (.ref x)) k) hS.2.2 hd (hlocks := E.2.2.2.2.2.2.1))
theorem WP.vret {K : Option Value → St → Prop} {mc ms : Nat} (hd : decode mi.2.1 pc = .ok (.return_, 1)) (hr : mi.2.2.2.1 = none) (hc : kc ≤ mc) (hs : ks ≤ ms) (k : K none S) : WP G R mi (QfK G K mc ms) kc ks pc lv [] S :=
  fun p e s m args below meth c E H locs ls hW hS hl => W.widen hc hs (W.vret E.1 E.2.1 (E.2.2.1.trans hr) (retQ E hW hS none k) hS.2.2 hd (hlocks := E.2.2.2.2.2.2.1))
/-! what stands outside -/
theorem WP.getAbove {index : Nat} (hw : Cond.fieldLink mi.2.2.2.2 index RX5 "ABOVE" "[I" ∈ WS) (hd : decode mi.2.1 pc = .ok (.getstatic index, 3)) (k : WP G R mi Qf kc ks (pc + 3) lv (.ref 1000 :: st) S) : WP G R mi Qf kc ks pc lv st S :=
  fun p e s m args below meth c E H locs ls hW hS hl => va_gets E.1 E.2.1 E.2.2.2.2.2.2.2.2.2.1.1 hS E.2.2.2.2.1 (E.2.2.2.2.2.1 _ hw) (fun x h => h) hd (k p e s m args below meth c E H locs ls hW hS hl)
theorem WP.getBodies {index : Nat} (hw : Cond.fieldLink mi.2.2.2.2 index RX4 "BODIES" "[I" ∈ WS) (hd : decode mi.2.1 pc = .ok (.getstatic index, 3)) (k : WP G R mi Qf kc ks (pc + 3) lv (.ref 1001 :: st) S) : WP G R mi Qf kc ks pc lv st S :=
  fun p e s m args below meth c E H locs ls hW hS hl => va_gets E.1 E.2.1 E.2.2.2.2.2.2.2.2.2.1.2.2.1 hS E.2.2.2.2.1 (E.2.2.2.2.2.1 _ hw) (fun x h => h) hd (k p e s m args below meth c E H locs ls hW hS hl)
theorem WP.ialdAbove {i : Int32} (hin : InB i 7) (hd : decode mi.2.1 pc = .ok (.iaload, 1)) (k : WP G R mi Qf kc ks (pc + 1) lv (.int (aboveT i.toNatClampNeg) :: st) S) : WP G R mi Qf kc ks pc lv (.int i :: .ref 1000 :: st) S :=
  fun p e s m args below meth c E H locs ls hW hS hl => va_ti E.1 E.2.1 E.2.2.2.2.2.2.2.2.2.1.2.1 hS hin rfl hd (k p e s m args below meth c E H locs ls hW hS hl)
theorem WP.ialdBodies {i : Int32} (hin : InB i 28) (hd : decode mi.2.1 pc = .ok (.iaload, 1)) (k : WP G R mi Qf kc ks (pc + 1) lv (.int (bodiesT i.toNatClampNeg) :: st) S) : WP G R mi Qf kc ks pc lv (.int i :: .ref 1001 :: st) S :=
  fun p e s m args below meth c E H locs ls hW hS hl => va_ti E.1 E.2.1 E.2.2.2.2.2.2.2.2.2.1.2.2.2.1 hS hin rfl hd (k p e s m args below meth c E H locs ls hW hS hl)
theorem WP.alenAbove (hd : decode mi.2.1 pc = .ok (.arraylength, 1)) (k : WP G R mi Qf kc ks (pc + 1) lv (.int 7 :: st) S) : WP G R mi Qf kc ks pc lv (.ref 1000 :: st) S :=
  fun p e s m args below meth c E H locs ls hW hS hl => va_tlen E.1 E.2.1 E.2.2.2.2.2.2.2.2.2.1.2.1 hS rfl hd (k p e s m args below meth c E H locs ls hW hS hl)
theorem WP.alenBodies (hd : decode mi.2.1 pc = .ok (.arraylength, 1)) (k : WP G R mi Qf kc ks (pc + 1) lv (.int 28 :: st) S) : WP G R mi Qf kc ks pc lv (.ref 1001 :: st) S :=
  fun p e s m args below meth c E H locs ls hW hS hl => va_tlen E.1 E.2.1 E.2.2.2.2.2.2.2.2.2.1.2.2.2.1 hS rfl hd (k p e s m args below meth c E H locs ls hW hS hl)
theorem WP.iaScript {i : Int32} (hin : InB i G.2.2.2.2.2.1) (hd : decode mi.2.1 pc = .ok (.iaload, 1)) (k : WP G R mi Qf kc ks (pc + 1) lv (.int (G.2.2.2.2.2.2.1 i.toNatClampNeg) :: st) S) : WP G R mi Qf kc ks pc lv (.int i :: .ref 1002 :: st) S := by
  intro p e s m args below meth c E H locs ls hW hS hl
  have hx := E.2.2.2.2.2.2.2.2.2.1.2.2.2.2.2.2.2.2.2.1
  exact va_sld E.1 E.2.1 hx.1 hx.2.2 (Nat.not_le.mpr hx.2.1) hS hin hd (k p e s m args below meth c E H locs ls hW hS hl)
theorem WP.alenScript (hd : decode mi.2.1 pc = .ok (.arraylength, 1)) (k : WP G R mi Qf kc ks (pc + 1) lv (.int (Int32.ofNat G.2.2.2.2.2.1) :: st) S) : WP G R mi Qf kc ks pc lv (.ref 1002 :: st) S := by
  intro p e s m args below meth c E H locs ls hW hS hl
  have hx := E.2.2.2.2.2.2.2.2.2.1.2.2.2.2.2.2.2.2.2.1
  exact va_slen E.1 E.2.1 hx.1 hx.2.2 (Nat.not_le.mpr hx.2.1) hS hd (k p e s m args below meth c E H locs ls hW hS hl)
theorem WP.ldcMouc (ho : mi.2.2.2.2 = RX5) (hd : decode mi.2.1 pc = .ok (.ldc 173, 2)) (k : WP G R mi Qf kc ks (pc + 2) lv (.ref 1003 :: st) S) : WP G R mi Qf kc ks pc lv st S :=
  fun p e s m args below meth c E H locs ls hW hS hl => va_ldcS E.1 E.2.1 (ho ▸ E.2.2.2.2.1) E.2.2.2.2.2.2.2.2.2.1.2.2.2.2.2.2.1 hd (k p e s m args below meth c E H locs ls hW hS hl)
theorem WP.ldcWkm (ho : mi.2.2.2.2 = RX5) (hd : decode mi.2.1 pc = .ok (.ldc 175, 2)) (k : WP G R mi Qf kc ks (pc + 2) lv (.ref 1004 :: st) S) : WP G R mi Qf kc ks pc lv st S :=
  fun p e s m args below meth c E H locs ls hW hS hl => va_ldcS E.1 E.2.1 (ho ▸ E.2.2.2.2.1) E.2.2.2.2.2.2.2.2.2.1.2.2.2.2.2.2.2.1 hd (k p e s m args below meth c E H locs ls hW hS hl)
theorem WP.ldcNo (ho : mi.2.2.2.2 = RX1) (hd : decode mi.2.1 pc = .ok (.ldc 20, 2)) (k : WP G R mi Qf kc ks (pc + 2) lv (.ref 1005 :: st) S) : WP G R mi Qf kc ks pc lv st S :=
  fun p e s m args below meth c E H locs ls hW hS hl => va_ldcS E.1 E.2.1 (ho ▸ E.2.2.2.2.1) E.2.2.2.2.2.2.2.2.2.1.2.2.2.2.2.2.2.2.1 hd (k p e s m args below meth c E H locs ls hW hS hl)
/-! the library -/
theorem WP.mmax {index : Nat} {x y : Int32} (hw : Cond.methodLink mi.2.2.2.2 index Lib.Math.max.name ∈ WS) (hst : (st.map fun v => v.category).sum ≤ 8) (hR : rmOk R 0 kc ks 0 0) (hd : decode mi.2.1 pc = .ok (.invokestatic index, 3)) (k : WP G R mi Qf kc ks (pc + 3) lv (.int (if x < y then y else x) :: st) S) : WP G R mi Qf kc ks pc lv (.int y :: .int x :: st) S :=
  fun p e s m args below meth c E H locs ls hW hS hl => va_mmax E.1 E.2.1 (E.2.2.2.1.trans hl.1.symm) E.2.2.2.2.1 (E.2.2.2.2.2.1 _ hw) (E.2.2.2.2.2.1 _ wi_Math_max_III) (E.2.2.2.2.2.1 _ wz_Math) (E.2.2.2.2.2.1 _ wc_Math_max_III) hR.1 (by rw [cat_rv]; have := hR.2.1; omega) hR.2.2.1 hR.2.2.2 hd (k p e s m args below meth c E H locs ls hW hS hl)
theorem WP.mmin {index : Nat} {x y : Int32} (hw : Cond.methodLink mi.2.2.2.2 index Lib.Math.min.name ∈ WS) (hst : (st.map fun v => v.category).sum ≤ 8) (hR : rmOk R 0 kc ks 0 0) (hd : decode mi.2.1 pc = .ok (.invokestatic index, 3)) (k : WP G R mi Qf kc ks (pc + 3) lv (.int (if y < x then y else x) :: st) S) : WP G R mi Qf kc ks pc lv (.int y :: .int x :: st) S :=
  fun p e s m args below meth c E H locs ls hW hS hl => va_mmin E.1 E.2.1 (E.2.2.2.1.trans hl.1.symm) E.2.2.2.2.1 (E.2.2.2.2.2.1 _ hw) (E.2.2.2.2.2.1 _ wi_Math_min_III) (E.2.2.2.2.2.1 _ wz_Math) (E.2.2.2.2.2.1 _ wc_Math_min_III) hR.1 (by rw [cat_rv]; have := hR.2.1; omega) hR.2.2.1 hR.2.2.2 hd (k p e s m args below meth c E H locs ls hW hS hl)
theorem WP.copy {index a b n0 n1 : Nat} {sp dp n : Int32} (hG : fl G = false) (hw : Cond.methodLink mi.2.2.2.2 index arraycopyName ∈ WS) (ha : S.1[a]? = some (.inr (0, n0))) (hb : S.1[b]? = some (.inr (0, n1))) (hst : (st.map fun v => v.category).sum ≤ 8) (hR : rmOk R 0 kc ks 0 0) (h1 : ¬ sp < 0) (h2 : ¬ dp < 0) (h3 : ¬ n < 0) (h4 : sp.toNatClampNeg + n.toNatClampNeg ≤ n0) (h5 : dp.toNatClampNeg + n.toNatClampNeg ≤ n1) (hd : decode mi.2.1 pc = .ok (.invokestatic index, 3))
    (k : WP G R mi Qf kc ks (pc + 3) lv st (S.1, S.2.1, cp2 S.2.2 b dp.toNatClampNeg a sp.toNatClampNeg n.toNatClampNeg)) : WP G R mi Qf kc ks pc lv (.int n :: .int dp :: .ref b :: .int sp :: .ref a :: st) S := by
  intro p e s m args below meth c E H locs ls hW hS hl
  show W _ _ _ _ _ _ _ _ _ _ _ _ _ _ _ (F0 m pc ls (.int n :: .int dp :: .ref (gr G b) :: .int sp :: .ref (gr G a) :: st.map (rv G)))
  rw [hW.gr ha, hW.gr hb]
  have hcopy : (st.map fun v => v.category).sum + (nativeFrameWords "java/lang/System" "arraycopy" 5 + 11) ≤ R.locals := by
    have h1 := hR.2.1
    have h2 : nativeFrameWords "java/lang/System" "arraycopy" 5 + 11 ≤ 50 := by decide +kernel
    omega
  refine va_copyi (ty := .int) E.1 E.2.1 (E.2.2.2.1.trans hl.1.symm) E.2.2.2.2.1 (E.2.2.2.2.2.1 _ hw) (E.2.2.2.2.2.1 _ wn_System_arraycopy_LjavalangObjectILjavalangObjectIIV) (E.2.2.2.2.2.1 _ wi_System_arraycopy_LjavalangObjectILjavalangObjectIIV) (E.2.2.2.2.2.1 _ wz_System) E.2.2.2.2.2.2.2.2.1 hW.1 (cells_D G S) hS a b 0 0 (cells_at ha) (cells_at hb) rfl rfl rfl h1 h2 h3 h4 h5 (fun _ _ => rfl) hR.1 (by rw [cat_rv (G := G)]; exact hcopy) hd (fun H1 locs1 hP1 hD1 hS1 => ?_)
  have hc2 := cells_set (G := G) (t' := S.2.1) (f' := cp2 S.2.2 b dp.toNatClampNeg a sp.toNatClampNeg n.toNatClampNeg) (e := .inl (G.2.2.2.1.1, n1, .inl (va_cpy (S.2.2 a) (S.2.2 b) sp.toNatClampNeg dp.toNatClampNeg n.toNatClampNeg))) hb (by
    simp only [ce]
    refine congrArg (fun z => Sum.inl (G.2.2.2.1.1, n1, Sum.inl z)) (funext fun q => ?_)
    simp [va_cpy, cp2]) (fun _ _ => rfl) (fun q hq => by funext z; simp [cp2, hq])
  rw [hc2] at hP1
  exact k p e s m args below meth c E H1 locs1 ls ⟨hP1, ⟨Nat.le_trans E.2.2.2.2.2.2.2.2.2.2 hS1.1, fun e => by rw [hG] at e; cases e⟩, hW.2.2⟩ hS1 hl
/-! switches -/
theorem WP.tsw {dflt lo hi : Int} {offs : Array Int} {len : Nat} {x : Int32} (tgs : List Nat) {td : Nat} (hd : decode mi.2.1 pc = .ok (.tableswitch dflt lo hi offs, len)) (ht : (pc : Int) + dflt = (td : Int)) (hsz : offs.toList.map (fun o => (pc : Int) + o) = tgs.map Int.ofNat) (hhi : hi = lo + (tgs.length : Int) - 1)
    (ko : (x.toInt < lo ∨ hi < x.toInt) → WP G R mi Qf kc ks td lv st S) (ki : ∀ (i t : Nat), tgs[i]? = some t → x.toInt = lo + i → WP G R mi Qf kc ks t lv st S) : WP G R mi Qf kc ks pc lv (.int x :: st) S := by
  intro p e s m args below meth c E H locs ls hW hS hl
  by_cases h1 : x.toInt < lo
  · exact lv_tableOut E.1 E.2.1 hd (Or.inl h1) ht (ko (Or.inl h1) p e s m args below meth c E H locs ls hW hS hl)
  · by_cases h2 : hi < x.toInt
    · exact lv_tableOut E.1 E.2.1 hd (Or.inr h2) ht (ko (Or.inr h2) p e s m args below meth c E H locs ls hW hS hl)
    · have hlt : (x.toInt - lo).toNat < tgs.length := by omega
      have hg : tgs[(x.toInt - lo).toNat]? = some tgs[(x.toInt - lo).toNat] := List.getElem?_eq_getElem hlt
      have ho : (offs.toList.map (fun o => (pc : Int) + o))[(x.toInt - lo).toNat]? = some ((tgs[(x.toInt - lo).toNat] : Nat) : Int) := by rw [hsz, List.getElem?_map, hg]; rfl
      rw [List.getElem?_map] at ho
      cases hq : offs.toList[(x.toInt - lo).toNat]? with
      | none => rw [hq] at ho; cases ho
      | some o =>
        rw [hq] at ho
        have ho2 : (pc : Int) + o = ((tgs[(x.toInt - lo).toNat] : Nat) : Int) := Option.some.inj ho
        exact lv_tableIn E.1 E.2.1 hd h1 h2 (by rw [← Array.getElem?_toList]; exact hq) ho2 (ki _ _ hg (by omega) p e s m args below meth c E H locs ls hW hS hl)
theorem WP.lsw {dflt : Int} {ps : Array (Int × Int)} {len : Nat} {x : Int32} {off : Int} {tgt : Nat} (hd : decode mi.2.1 pc = .ok (.lookupswitch dflt ps, len)) (hp : (ps.toList.zip (ps.toList.drop 1)).all (fun (a, next) => a.1 < next.1) = true) (ho : Op.lookupswitch.offset ps.toList dflt x.toInt = off) (ht : (pc : Int) + off = (tgt : Int)) (k : WP G R mi Qf kc ks tgt lv st S) : WP G R mi Qf kc ks pc lv (.int x :: st) S :=
  fun p e s m args below meth c E H locs ls hW hS hl => lv_lookup E.1 E.2.1 hd hp ho ht (k p e s m args below meth c E H locs ls hW hS hl)

end
