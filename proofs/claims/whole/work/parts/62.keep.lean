/-! What always holds is kept by every call -/
theorem ite_le {c : Prop} [Decidable c] {x : Nat} : (if c then x + 1 else x) ≤ x + 1 := by split <;> omega
section KP
variable {n : Nat} {t : QT} {k : QC} {o : QO} {l : QL} {p : QP} {d : QD} {b : QB} {r : List Nat}
theorem ok_mono (h : okQ n t k o l p d b r) (hn : n < 600) : okQ (n + 1) t k o l p d b r := by
  obtain ⟨h1, h2, h3, h4, h5, ⟨h6, h7, h8⟩, ⟨g1, g2, g3, g4⟩, h9, h10⟩ := h
  exact ⟨h1, h2, h3, h4, h5, ⟨h6, by omega, fun i hi => ⟨by have := (h8 i hi).1; omega, (h8 i hi).2⟩⟩, ⟨g1, g2, by omega, g4⟩, h9, by omega⟩
theorem ok_note (h : okQ n t k o l p d b r) (hn : n < 600) {t' : QT} (h1 : t'.1 ≤ 64) (h2 : t.1 ≤ t'.1) (x : Nat) : okQ (n + 1) t' k o l p (ntD d) (ntB b x) r := by
  obtain ⟨-, h2', h3, h4, h5, ⟨h6, h7, h8⟩, ⟨g1, g2, g3, g4⟩, h9, h10⟩ := h
  refine ⟨h1, h2', h3, h4, h5, ⟨h6, by show d.2.1 + 4 ≤ _; omega, fun i hi => ⟨by have := (h8 i hi).1; show (d.2.2 i).2.2.2 ≤ _; omega, (h8 i hi).2⟩⟩, ⟨g1, by show b.2.1 ≤ t'.1; omega, ?_, g4⟩, h9, by omega⟩
  exact Nat.le_trans ite_le (show b.2.2.1 + 1 ≤ n + 1 by omega)
theorem ok_ins (h : okQ n t k o l p d b r) (hn : n < 600) (ht : t.1 < 64) (x y z : Int32) : okQ (n + 1) (insT t x y z) k o l p (ntD d) (ntB b t.1) r := ok_note h hn (show t.1 + 1 ≤ 64 by omega) (Nat.le_succ _) _
theorem ok_del (h : okQ n t k o l p d b r) (hn : n < 600) (j : Nat) : okQ (n + 1) (delT t j) k o l p (ntD d) (ntB b j) r := ok_note h hn h.1 (Nat.le_refl _) _
theorem ok_put (h : okQ n t k o l p d b r) (hn : n < 600) (j q : Nat) (x : Int32) : okQ (n + 1) (putT t j q x) k o l p (ntD d) (ntB b j) r := ok_note h hn h.1 (Nat.le_refl _) _
theorem ok_where (h : okQ n t k o l p d b r) (hn : n < 600) {q : Nat} {kd : Int32} (hk : kdI kd) (fr to : Int32) : okQ (n + 1) t (putC k q kd fr to) o l p d b r := by
  have h0 := ok_mono h hn
  refine ⟨h0.1, fun j hj => ?_, h0.2.2⟩
  have h1 := h.2.1 j hj
  by_cases e : j = q
  · subst e
    simp only [putC, pk_us]
    refine ⟨hk, ?_⟩
    unfold toK
    simp only [pk_us]
    split <;> rfl
  · simp only [putC, pk_un e]
    refine ⟨h1.1, ?_⟩
    have h2 := h1.2
    unfold toK at h2 ⊢
    simp only [pk_un e]
    exact h2
theorem ok_order (h : okQ n t k o l p d b r) (hn : n < 600) {x : Int32} {m : Nat} (hx : isCol x) (hm : m ≤ 64) : okQ (n + 1) t k (x, m, o.2.2) l p d b r := by
  have h0 := ok_mono h hn
  exact ⟨h0.1, h0.2.1, ⟨hx, hm, h0.2.2.1.2.2⟩, h0.2.2.2⟩
theorem ok_budget (h : okQ n t k o l p d b r) (hn : n < 600) {m : Nat} (hm : m ≤ 200) : okQ (n + 1) t k (o.1, o.2.1, m) l p d b r := by
  have h0 := ok_mono h hn
  exact ⟨h0.1, h0.2.1, ⟨h0.2.2.1.1, h0.2.2.1.2.1, hm⟩, h0.2.2.2⟩
theorem ok_b (h : okQ n t k o l p d b r) (hn : n < 600) {b' : QB} (hb : (∀ j, b'.1 = some j → j < 9) ∧ b'.2.1 ≤ t.1 ∧ b'.2.2.1 ≤ n + 1 ∧ ∀ j, b'.1 = some j → ¬ b'.2.2.2 j = 0) : okQ (n + 1) t k o l p d b' r := by
  have h0 := ok_mono h hn
  exact ⟨h0.1, h0.2.1, h0.2.2.1, h0.2.2.2.1, h0.2.2.2.2.1, h0.2.2.2.2.2.1, hb, h0.2.2.2.2.2.2.2⟩
theorem ok_build (h : okQ n t k o l p d b r) (hn : n < 600) {j : Nat} (hj : j < 9) : okQ (n + 1) t k o l p d (begB b t.1 j) r := by
  refine ok_b h hn ⟨fun i hi => ?_, Nat.zero_le _, Nat.zero_le _, fun i hi => ?_⟩
  · have hi' : finB (some j) t.1 = some i := hi
    unfold finB at hi'
    split at hi'
    · cases hi'
    · cases hi'; exact hj
  · have hi' : finB (some j) t.1 = some i := hi
    unfold finB at hi'
    split at hi'
    · cases hi'
    · rename_i z
      cases hi'
      show ¬ finS (upd b.2.2.2 j 1) (some j) t.1 j = 0
      unfold finS
      rw [if_neg z, pk_us]
      decide
theorem ok_work (h : okQ n t k o l p d b r) (hn : n < 600) (m : Nat) : okQ (n + 1) t k o l p d (wrkB b t.1 m) r := by
  obtain ⟨g1, g2, g3, g4⟩ := h.2.2.2.2.2.2.1
  have hf : ∀ i, finB b.1 (lftB b t.1 m) = some i → ¬ lftB b t.1 m = 0 ∧ b.1 = some i := fun i hi => by
    unfold finB at hi
    split at hi
    · cases hi
    · rename_i z; exact ⟨z, hi⟩
  refine ok_b h hn ⟨fun i hi => g1 i (hf i hi).2, ?_, ?_, fun i hi => ?_⟩
  · show b.2.1 + min m (t.1 - b.2.1) ≤ t.1
    omega
  · show b.2.2.1 - _ ≤ n + 1
    omega
  · obtain ⟨z1, z2⟩ := hf i hi
    show ¬ finS b.2.2.2 b.1 (lftB b t.1 m) i = 0
    unfold finS
    rw [if_neg z1]
    exact g4 i z2
theorem ok_drop (h : okQ n t k o l p d b r) (hn : n < 600) (j : Nat) : okQ (n + 1) t k o l p d (drpB b j) r := by
  obtain ⟨g1, g2, g3, g4⟩ := h.2.2.2.2.2.2.1
  have hf : ∀ i, (if b.1 = some j then none else b.1) = some i → b.1 = some i ∧ i ≠ j := fun i hi => by
    split at hi
    · cases hi
    · rename_i z; exact ⟨hi, fun e => z (by rw [hi, e])⟩
  refine ok_b h hn ⟨fun i hi => g1 i (hf i hi).1, g2, by show b.2.2.1 ≤ n + 1; omega, fun i hi => ?_⟩
  obtain ⟨z1, z2⟩ := hf i hi
  show ¬ upd b.2.2.2 j 0 i = 0
  rw [pk_un z2]
  exact g4 i z1
theorem ok_period (h : okQ n t k o l p d b r) (hn : n < 600) : okQ (n + 1) t k o l p (fdQ d) b r := by
  have h0 := ok_mono h hn
  obtain ⟨d1, d2, d3⟩ := h.2.2.2.2.2.1
  have hl := svL_len (fun i => (d.2.2 i).2.2.2) d.1
  refine ⟨h0.1, h0.2.1, h0.2.2.1, h0.2.2.2.1, h0.2.2.2.2.1, ⟨by show (svL _ _).length ≤ 8; omega, by show d.2.1 * 3 / 4 ≤ _; omega, fun i hi => ?_⟩, h0.2.2.2.2.2.2⟩
  have hm := (svL_mem (getD_mem hi)).1
  have h3 := d3 _ hm
  refine ⟨?_, h3.2⟩
  show (d.2.2 _).2.2.2 * 3 / 4 ≤ _
  have := h3.1
  omega
theorem ask_ok (ht : t.1 ≤ 64) (y : Option Nat) (hy : ∀ i, y = some i → i < 9) : ∀ u ∈ askT t.2.2 t.2.1 k.1 k.2.1 k.2.2 t.1 (liv t) y, okO u.1 ∧ u.2.1 < 4 ∧ u.2.2 < 16 := by
  have hlv := liv_le t ht
  have hh := hgt_le (leavesOf (liv t))
  rcases opt_or y with rfl | ⟨i, rfl⟩
  · intro u hu
    obtain ⟨x, hx, rfl⟩ := List.mem_map.mp (show u ∈ heapT (fours t.1) from hu)
    have := List.mem_range.mp hx
    refine ⟨fun j hj => (by cases hj), (show (0 : Nat) < 4 by decide), ?_⟩
    show x < 16
    unfold fours at this
    omega
  · have hi := hy i rfl
    have hbg := bgin t k i
    have hf16 : flf (bgQ t k i) (liv t) < 16 := by have := leaf_lt hbg hlv (j := 0) (by unfold lvT; split <;> omega); omega
    have ho : okO (some i) := fun j hj => by cases hj; exact hi
    have hdn : ∀ (m : Nat), m ≤ 3 → ∀ u ∈ downT i (flf (bgQ t k i) (liv t)) m, okO u.1 ∧ u.2.1 < 4 ∧ u.2.2 < 16 := by
      intro m
      induction m with
      | zero => intro _ u hu; cases hu
      | succ m ih =>
        intro hm u hu
        rcases List.mem_cons.mp (show u ∈ (some i, m + 1, flf (bgQ t k i) (liv t) / 4 ^ (m + 1)) :: downT i (flf (bgQ t k i) (liv t)) m from hu) with rfl | hu
        · exact ⟨ho, by show m + 1 < 4; omega, Nat.lt_of_le_of_lt (Nat.div_le_self _ _) hf16⟩
        · exact ih (by omega) u hu
    intro u hu
    have hu' : u ∈ downT i (flf (bgQ t k i) (liv t)) (hgt (leavesOf (liv t))) ++ (leafT i (flf (bgQ t k i) (liv t)) (lvT (bgQ t k i) (inQ t k i).length) ++ rowsT (srQ t k i)) := hu
    rcases List.mem_append.mp hu' with hu | hu
    · exact hdn _ (by omega) u hu
    · rcases List.mem_append.mp hu with hu | hu
      · obtain ⟨x, hx, rfl⟩ := List.mem_map.mp hu
        exact ⟨ho, (show (0 : Nat) < 4 by decide), leaf_lt hbg hlv (List.mem_range.mp hx)⟩
      · obtain ⟨x, hx, rfl⟩ := List.mem_map.mp hu
        have := (srt_mem (gtv_swo _ _ _) _ x).mp (List.mem_reverse.mp hx)
        have := liveL_lt (List.mem_filter.mp this).1
        refine ⟨fun j hj => (by cases hj), (show (0 : Nat) < 4 by decide), ?_⟩
        show x / 4 < 16
        omega
theorem ok_ask (h : okQ n t k o l p d b r) (hn : n < 600) : okQ (n + 1) t k o (wayQ t k b, wcQ t k b) (polQ t k p b) (ntQ d k) b (ansQ t k o) := by
  have h0 := ok_mono h hn
  obtain ⟨p1, p2, p3, p4⟩ := h.2.2.2.2.1
  obtain ⟨d1, d2, d3⟩ := h.2.2.2.2.2.1
  have hwy : ∀ i, wayQ t k b = some i → i < 9 := fun i hi => wyGo_lt hi
  have hle : plQ d k ≤ d.1 := plc_le
  refine ⟨h0.1, h0.2.1, h0.2.2.1, hwy, ⟨p1, p2, tchL_lt (P := (p.2.1, p.2.2.1, p.2.2.2.1, 0, 0)) p3, pOk_L (P := (p.2.1, p.2.2.1, p.2.2.2.1, 0, 0)) p4 (ask_ok h.1 _ hwy)⟩, ?_, h0.2.2.2.2.2.2.1, ⟨?_, fun x hx => ?_⟩, by omega⟩
  · unfold ntQ
    split
    · exact h0.2.2.2.2.2.1
    · rename_i h8
      refine ⟨by show (if plQ d k = d.1 then d.1 + 1 else d.1) ≤ 8; split <;> omega, by show d.2.1 ≤ _; omega, fun i hi => ?_⟩
      have hi' : i < (if plQ d k = d.1 then d.1 + 1 else d.1) := hi
      by_cases e : i = plQ d k
      · subst e
        simp only [va_s]
        refine ⟨?_, h.2.1⟩
        show (if plQ d k = d.1 then 0 else (d.2.2 (plQ d k)).2.2.2) + 16 ≤ 16 * (n + 1)
        split
        · omega
        · have := (d3 (plQ d k) (by omega)).1
          omega
      · simp only [va_n (f := d.2.2) e rfl]
        have := d3 i (by split at hi' <;> omega)
        exact ⟨by omega, this.2⟩
  · show (List.take _ _).length ≤ 64
    rw [List.length_take]
    have := h.2.2.1.2.1
    omega
  · have h1 := List.mem_of_mem_take (show x ∈ (List.take _ _) from hx)
    have h2 := (srt_mem (gtv_swo _ _ _) _ x).mp (List.mem_reverse.mp h1)
    have := liveL_lt (List.mem_filter.mp h2).1
    have := h.1
    omega
end KP
