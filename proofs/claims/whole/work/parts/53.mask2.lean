/-! The model: ask -/
section MAS
variable {X : gX} {a : Nat → Nat} {t : QT} {k : QC} {o : QO} {l : QL} {p : QP} {d : QD} {b : QB} {n : Nat} {r : List Nat} {th : Int32} {c : Nat → va_E}
theorem m_ask80 (h : mdl X a c th t k o l p d b r) (ht : t.1 ≤ 64) (hk : kOk k.1 k.2.1 k.2.2) (ho : isCol o.1) (hrl : o.2.1 ≤ 64) (hd : d.1 ≤ 8) (hdk : ∀ i, i < d.1 → kOk (d.2.2 i).1 (d.2.2 i).2.1 (d.2.2 i).2.2.1) :
    GW X a m_M_ask 6 143 0 0 80 [(0, .ref (a 79))] [] c (pI (fun v w => v = nI (ansQ t k o).length ∧ mdl X a w th t k o l p (ntQ d k) b (ansQ t k o) ∧ sameM c w)) := by
  obtain ⟨sc, hM⟩ := h.M
  obtain ⟨⟨fr, hE⟩, CC, hCC⟩ := h.E
  obtain ⟨AA, hA, -⟩ := h.A
  have hQ : mq X c t 0 k := h.q (Nat.zero_le _)
  have hlv := liv_le t ht
  have hlen : ((srt (gtv t.2.1 o.1 (-1)) (liveL t.2.2 t.1)).reverse).length = liv t := by rw [List.length_reverse, srt_len (gtv_swo _ _ _)]
  have hS64 : ∀ x ∈ (srt (gtv t.2.1 o.1 (-1)) (liveL t.2.2 t.1)).reverse, x < 64 := fun x hx => by
    have := liveL_lt ((srt_mem (gtv_swo _ _ _) _ x).mp (List.mem_reverse.mp hx))
    omega
  have hans : (((srt (gtv t.2.1 o.1 (-1)) (liveL t.2.2 t.1)).reverse).filter (fitR k.1 k.2.1 k.2.2 t.2.1)).take o.2.1 = ansQ t k o := by
    show _ = (srt _ _).reverse.take _
    rw [List.filter_reverse, srt_filter (gtv_swo _ _ _)]
  refine w_aload_n d_M_ask_80 rfl ?_
  refine w_aload_n d_M_ask_81 rfl ?_
  refine w_getf g_M_39 d_M_ask_82 hM rfl (by decide) ?_
  refine w_iconst (-1) d_M_ask_85 (by decide) ?_
  refine w_vV [_, _] c_M_132 d_M_ask_86 rfl hM (by decide) (m_sort hM h.H h.V hE ht ho (Or.inl rfl)) (fun w hw => ?_) rfl rfl (gq rfl) (gq rfl) (gq rfl) (gq rfl) (gq rfl) (gq rfl)
  obtain ⟨w1, ⟨fs, w2, w3⟩, w4⟩ := hw
  refine w_aload_n d_M_ask_89 rfl ?_
  refine w_iconst 0 d_M_ask_90 (by decide) ?_
  refine w_putf p_M_208 d_M_ask_91 w1 rfl rfl (gqL rfl) (by decide) ?_
  refine w_iconst 0 d_M_ask_94 (by decide) ?_
  refine w_istore_n d_M_ask_95 (by decide) ?_
  have hQ1 : mq X (va_up w 79 (oM a (th, liv t, sc.2) t o l p d b 0)) t 0 k := (hQ.keep w4 (by simp)).keep (L := [79]) (same_up (by simp)) (by simp)
  refine m_anGo (k := k) (l := l) (p := p) (d := d) (b := b) (m := (th, liv t, sc.2)) (S := (srt (gtv t.2.1 o.1 (-1)) (liveL t.2.2 t.1)).reverse) hS64 (by omega) w3 hrl hlen.symm (c0 := w) (fun c2 A2 s2 r1 r2 r3 => ?_) _ [] _ AA rfl (same_up (by simp)) hQ1 (va_n (by decide) w2) (by rw [List.filter_nil, List.take_nil]; rfl) (va_n (by decide) ((w4 91 (by decide)).trans hA)) (by rw [List.filter_nil, List.take_nil]; exact lay_nil)
  rw [hans] at r1 r3
  have hs2 : same c c2 [79, 91, 92] := same_trans (same_sub w4 (by simp)) (same_sub s2 (by simp))
  have hC2 : mC X c2 k d := h.C.keep (hs2 _ (by decide)) (hs2 _ (by decide)) (hs2 _ (by decide))
  have hW2 : mW X c2 d := h.W.keep (hs2 _ (by decide))
  refine w_aload_n d_M_ask_178 rfl ?_
  refine w_vV [] c_M_211 d_M_ask_179 rfl r1 (by decide) (m_remember hd hk hdk r1 hC2 hW2) (fun w hw => ?_) rfl rfl (gq rfl) (gq rfl) (gq rfl) (gq rfl) (gq rfl) (gq rfl)
  obtain ⟨u1, u2, u3, u4⟩ := hw
  rename_i w0
  have hs3 : same c w [79, 85, 86, 87, 88, 91, 92] := same_trans (same_sub hs2 (by simp)) (same_sub u4 (by simp))
  refine w_aload_n d_M_ask_182 rfl ?_
  refine w_getf g_M_208 d_M_ask_183 u1 rfl (by decide) ?_
  exact w_iret d_M_ask_186 rfl (⟨_, rfl, rfl, h.part hs3 ⟨_, u1⟩ (Or.inl ⟨by decide, rfl⟩) (Or.inl ⟨by decide, rfl⟩) ⟨by decide, by decide⟩ (Or.inl ⟨by decide, rfl⟩) (Or.inr u2) (Or.inr u3) (Or.inl ⟨by decide, by decide, rfl, rfl, rfl⟩) (Or.inr ⟨A2, (u4 91 (by decide)).trans r2, r3⟩) (Or.inr ⟨⟨fs, (u4 92 (by decide)).trans ((s2 92 (by decide)).trans w2)⟩, CC, (hs3 93 (by decide)).trans hCC⟩), sameM_of hs3 (by simp)⟩)
theorem mdl.tch (h : mdl X a c th t k o l p d b r) {w : Nat → va_E} (hs : same c w [79, 89, 90, 92]) {l' : QL} {p' : QP} (hM : ∃ sc, w 79 = oM a (th, sc) t o l' p' d b r.length) (hP : mP X w p') (hE : ∃ fr, w 92 = aI X 64 fr) : mdl X a w th t k o l' p' d b r := by
  obtain ⟨-, CC, hCC⟩ := h.E
  exact h.part hs hM (Or.inl ⟨by decide, rfl⟩) (Or.inl ⟨by decide, rfl⟩) ⟨by decide, by decide⟩ (Or.inl ⟨by decide, rfl⟩) (Or.inl ⟨by decide, by decide, by decide, rfl, rfl, rfl⟩) (Or.inl ⟨by decide, rfl, rfl⟩) (Or.inr hP) (Or.inl ⟨by decide, rfl⟩) (Or.inr ⟨hE, CC, (hs 93 (by decide)).trans hCC⟩)
theorem m_ask (h : mdl X a c th t k o l p d b r) (ok : okQ n t k o l p d b r) : GW X a m_M_ask 6 143 0 0 0 (lv_args 0 [.ref (a 79)]) [] c (pI (fun v w => v = nI (ansQ t k o).length ∧ mdl X a w 0 t k o (wayQ t k b, wcQ t k b) (polQ t k p b) (ntQ d k) b (ansQ t k o) ∧ sameM c w)) := by
  obtain ⟨sc, hM⟩ := h.M
  have ht := ok.1
  have hk := ok.2.1
  have o1 := ok.2.2.1
  have d1 := ok.2.2.2.2.2.1
  have p1 := ok.2.2.2.2.1
  have hm := h.thr1 (th' := 0) (sc := sc)
  obtain ⟨⟨fr, hE⟩, -⟩ := hm.E
  have hQ : mq X (va_up c 79 (oM a (0, sc) t o l p d b r.length)) t 0 k := hm.q (Nat.zero_le _)
  have hP0 : mPk X (va_up c 79 (oM a (0, sc) t o l p d b r.length)) (p.1, p.2.1, p.2.2.1, p.2.2.2.1, 0, 0) := ⟨hm.P, p1.1, p1.2.1, p1.2.2.1, p1.2.2.2⟩
  have hwy : ∀ i, wgQ t k b.2.2.2 9 = some i → i < 9 ∧ ¬ k.1 (fN i) = 0 := fun i hi => ⟨wyGo_lt hi, wg_way hi⟩
  have fin : ∀ c2 : Nat → va_E, mdl X a c2 0 t k o (wayQ t k b, wcQ t k b) (polQ t k p b) d b r → sameM c c2 → GW X a m_M_ask 6 143 0 0 80 [(0, .ref (a 79))] [] c2 (pI (fun v w => v = nI (ansQ t k o).length ∧ mdl X a w 0 t k o (wayQ t k b, wcQ t k b) (polQ t k p b) (ntQ d k) b (ansQ t k o) ∧ sameM c w)) := by
    intro c2 h2 hs2
    refine w_post (fun r w hw => ?_) (m_ask80 h2 ht hk o1.1 o1.2.1 d1.1 (fun i hi => (d1.2.2 i hi).2))
    obtain ⟨v, q0, q1, q2, q3⟩ := hw
    exact ⟨v, q0, q1, q2, sameM_t hs2 q3⟩
  refine w_aload_n d_M_ask_0 rfl ?_
  refine w_iconst 0 d_M_ask_1 (by decide) ?_
  refine w_putf p_M_72 d_M_ask_2 hM rfl rfl (gqL rfl) (by decide) ?_
  refine w_aload_n d_M_ask_5 rfl ?_
  refine w_aload_n d_M_ask_6 rfl ?_
  refine w_iconst 0 d_M_ask_7 (by decide) ?_
  refine w_iconst (-1) d_M_ask_8 (by decide) ?_
  refine w_vI [_, _] c_M_196 d_M_ask_9 rfl va_s (by decide) (m_wayOf (q := 0) (m := (0, sc)) (t := t) (o := o) (l := l) (p := p) (d := d) (b := b) (an := r.length) va_s hQ hE hm.s hk (Nat.zero_le _) ht) (fun x w hw => ?_) rfl rfl (gq rfl) (gq rfl) (gq rfl) (gq rfl) (gq rfl) (gq rfl)
  obtain ⟨rfl, ⟨sc1, w1⟩, ⟨fr1, w2⟩, w3⟩ := hw
  refine w_putf p_M_60 d_M_ask_12 w1 rfl rfl (gqL rfl) (by decide) ?_
  have hQ1 : mq X (va_up w 79 (oM a (0, sc1) t o (wgQ t k b.2.2.2 9, l.2) p d b r.length)) t 0 k := (hQ.keep w3 (by simp)).keep (L := [79]) (same_up (by simp)) (by simp)
  refine w_aload_n d_M_ask_15 rfl ?_
  refine w_aload_n d_M_ask_16 rfl ?_
  refine w_iconst 0 d_M_ask_17 (by decide) ?_
  refine w_aload_n d_M_ask_18 rfl ?_
  refine w_getf g_M_60 d_M_ask_19 va_s rfl (by decide) ?_
  refine w_vI [_, _] c_M_199 d_M_ask_22 rfl va_s (by decide) (m_costOfWay (q := 0) (y := wgQ t k b.2.2.2 9) (m := (0, sc1)) (t := t) (o := o) (l := (wgQ t k b.2.2.2 9, l.2)) (p := p) (d := d) (b := b) (an := r.length) va_s hQ1 (va_n (by decide) w2) hk (Nat.zero_le _) ht hwy) (fun x w hw => ?_) rfl rfl (gq rfl) (gq rfl) (gq rfl) (gq rfl) (gq rfl) (gq rfl)
  obtain ⟨rfl, ⟨sc2, u1⟩, ⟨fr2, u2⟩, u3⟩ := hw
  rename_i w0
  refine w_putf p_M_202 d_M_ask_25 u1 rfl rfl (gqL rfl) (by decide) ?_
  refine w_aload_n d_M_ask_28 rfl ?_
  refine w_iconst 0 d_M_ask_29 (by decide) ?_
  refine w_putf p_M_171 d_M_ask_30 va_s rfl rfl (gqL rfl) (by decide) ?_
  refine w_aload_n d_M_ask_33 rfl ?_
  refine w_iconst 0 d_M_ask_34 (by decide) ?_
  refine w_putf p_M_174 d_M_ask_35 va_s rfl rfl (gqL rfl) (by decide) ?_
  rw [bx_uu, bx_uu]
  have hb : va_up w 79 (oM a (0, sc2) t o (wayQ t k b, wcQ t k b) (p.1, p.2.1, p.2.2.1, p.2.2.2.1, 0, 0) d b r.length) 79 = oM a (0, sc2) t o (wayQ t k b, wcQ t k b) (p.1, p.2.1, p.2.2.1, p.2.2.2.1, 0, 0) d b r.length := va_s
  have hs0 : same (va_up c 79 (oM a (0, sc) t o l p d b r.length)) (va_up w 79 (oM a (0, sc2) t o (wayQ t k b, wcQ t k b) (p.1, p.2.1, p.2.2.1, p.2.2.2.1, 0, 0) d b r.length)) [79, 92] := same_trans w3 (same_trans (same_trans (same_up (by simp)) u3) (same_up (by simp)))
  have hsM : sameM c (va_up w 79 (oM a (0, sc2) t o (wayQ t k b, wcQ t k b) (p.1, p.2.1, p.2.2.1, p.2.2.2.1, 0, 0) d b r.length)) := sameM_t (sameM_up (by decide) (by decide)) (sameM_of hs0 (by simp))
  have hE3 : va_up w 79 (oM a (0, sc2) t o (wayQ t k b, wcQ t k b) (p.1, p.2.1, p.2.2.1, p.2.2.2.1, 0, 0) d b r.length) 92 = aI X 64 fr2 := va_n (by decide) u2
  have hPk : mPk X (va_up w 79 (oM a (0, sc2) t o (wayQ t k b, wcQ t k b) (p.1, p.2.1, p.2.2.1, p.2.2.2.1, 0, 0) d b r.length)) (p.1, p.2.1, p.2.2.1, p.2.2.2.1, 0, 0) := ⟨hP0.1.keep (hs0 89 (by decide)) (hs0 90 (by decide)), hP0.2⟩
  have hQ3 : mq X (va_up w 79 (oM a (0, sc2) t o (wayQ t k b, wcQ t k b) (p.1, p.2.1, p.2.2.1, p.2.2.2.1, 0, 0) d b r.length)) t 0 k := hQ.keep hs0 (by simp)
  generalize hc3 : va_up w 79 (oM a (0, sc2) t o (wayQ t k b, wcQ t k b) (p.1, p.2.1, p.2.2.1, p.2.2.2.1, 0, 0) d b r.length) = c3 at hb hs0 hsM hE3 hPk hQ3
  have hb2 : ∀ (c3 : Nat → va_E), c3 79 = oM a (0, sc2) t o (wayQ t k b, wcQ t k b) (p.1, p.2.1, p.2.2.1, p.2.2.2.1, 0, 0) d b r.length → c3 79 = oM a (0, sc2) t o (wgQ t k b.2.2.2 9, wyV (cst t k) (nI (fours t.1)) (wgQ t k b.2.2.2 9)) (p.1, p.2.1, p.2.2.1, p.2.2.2.1, 0, 0) d b r.length := fun _ z => z
  change GW X a m_M_ask _ _ _ _ _ _ _ (va_up w 79 (oM a (0, sc2) t o (wayQ t k b, wcQ t k b) (p.1, p.2.1, p.2.2.1, p.2.2.2.1, 0, 0) d b r.length)) _
  rw [hc3]
  refine w_aload_n d_M_ask_38 rfl ?_
  refine w_getf g_M_60 d_M_ask_39 hb rfl (by decide) ?_
  rcases opt_or (wayQ t k b) with hy | ⟨i, hy⟩
  · -- case
    refine w_if_ge 72 d_M_ask_42 (by decide) (fun hn => absurd hn ((by rw [hy]; exact (by decide : ¬ (0 : Int32) ≤ -1)))) (fun _ => ?_)
    refine w_iconst 0 d_M_ask_45 (by decide) ?_
    refine w_istore_n d_M_ask_46 (by decide) ?_
    refine m_hpGo (p := (p.1, p.2.1, p.2.2.1, p.2.2.2.1, 0, 0)) (c0 := c3) ht (fun c4 s4 r1 r2 => ?_) (fours t.1) 0 c3 (by omega) same_rf hb hPk
    have e : polQ t k p b = tcL (p.1, p.2.1, p.2.2.1, p.2.2.2.1, 0, 0) (heapT (fours t.1)) := by unfold polQ; rw [hy]; rfl
    refine fin c4 (hm.tch (same_trans (same_sub hs0 (by simp)) (same_sub s4 (by simp))) ⟨_, by rw [e]; exact r1⟩ (by rw [e]; exact r2.1) ⟨fr2, (s4 92 (by decide)).trans hE3⟩) (sameM_t hsM (sameM_of s4 (by simp)))
  · -- case
    obtain ⟨hi, hw⟩ := hwy i hy
    refine w_if_ge 72 d_M_ask_42 (by decide) (fun _ => ?_) (fun hn => absurd ((by rw [hy]; exact nI_pos' (by omega))) hn)
    refine w_aload_n d_M_ask_72 rfl ?_
    refine w_aload_n d_M_ask_73 rfl ?_
    refine w_getf g_M_60 d_M_ask_74 hb rfl (by decide) ?_
    have hcon := m_touchIndex (i := i) (k := k) hb hQ3 hE3 hPk hk ht hi hw
    rw [show nI i = oI (wayQ t k b) by rw [hy]; rfl] at hcon
    refine w_vV [_] c_M_205 d_M_ask_77 rfl hb (by decide) (hcon) (fun w hw => ?_) rfl rfl (gq rfl) (gq rfl) (gq rfl) (gq rfl) (gq rfl) (gq rfl)
    obtain ⟨r1, r2, r3, r4⟩ := hw
    have e : polQ t k p b = tcL (p.1, p.2.1, p.2.2.1, p.2.2.2.1, 0, 0) (idxT t.2.2 t.2.1 k.1 k.2.1 k.2.2 t.1 (liv t) i) := by unfold polQ; rw [hy]; rfl
    refine fin _ (hm.tch (same_trans (same_sub hs0 (by simp)) r4) (by rw [e]; exact r1) (by rw [e]; exact r2.1) r3) (sameM_t hsM (sameM_of r4 (by simp)))
end MAS
