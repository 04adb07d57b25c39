/-! ===== all who touch in a wall meet: the class ===== -/
noncomputable def fiP (fi : Nat → Nat → Int32) (y : Int32) (P : Nat → Nat → Prop) : Nat → Nat → Int32 := fun p q => if cd (fi p q = -1 ∧ P p q) = true then y else fi p q
theorem fiP_cong {fi : Nat → Nat → Int32} {y : Int32} {P Q : Nat → Nat → Prop} (h : ∀ p q, P p q ↔ Q p q) : fiP fi y P = fiP fi y Q := by
  have : P = Q := by funext p q; exact propext (h p q)
  rw [this]
def okP (P : Nat → Nat → Prop) : Prop := (∀ p q, P p q ↔ P q p) ∧ ∀ p, ¬ P p p
theorem fiP_ok {fi : Nat → Nat → Int32} {y : Int32} {P : Nat → Nat → Prop} (h : fiOk fi) (hP : okP P) : fiOk (fiP fi y P) := by
  refine ⟨fun p q hp hq => ?_, fun p hp => ?_⟩
  · unfold fiP
    have : cd (fi p q = -1 ∧ P p q) = cd (fi q p = -1 ∧ P q p) := by
      rw [Bool.eq_iff_iff, cd_iff, cd_iff, h.1 p q hp hq, hP.1 p q]
    rw [this, h.1 p q hp hq]
  · unfold fiP
    rw [if_neg (by rw [cd_iff]; exact fun z => hP.2 p z.2)]; exact h.2 p hp
theorem fiP_add {fi : Nat → Nat → Int32} {y : Int32} {P : Nat → Nat → Prop} {b c : Nat} (h : fiOk fi) (hP : okP P) (hy : y ≠ -1) (hb : b < 24) (hc : c < 24) : mt1 (fiP fi y P) y b c = fiP fi y (fun p q => P p q ∨ (p = b ∧ q = c) ∨ (p = c ∧ q = b)) := by
  funext p q
  by_cases e : (p = b ∧ q = c) ∨ (p = c ∧ q = b)
  · have es : fi p q = fi b c := by
      rcases e with ⟨rfl, rfl⟩ | ⟨rfl, rfl⟩
      · rfl
      · exact h.1 _ _ hc hb
    have eP : P p q ↔ P b c := by
      rcases e with ⟨rfl, rfl⟩ | ⟨rfl, rfl⟩
      · exact Iff.rfl
      · exact hP.1 _ _
    unfold mt1
    by_cases z : fi b c = -1
    · have r : fiP fi y (fun p q => P p q ∨ (p = b ∧ q = c) ∨ (p = c ∧ q = b)) p q = y := by
        unfold fiP; exact if_pos (cd_iff.mpr ⟨es.trans z, .inr e⟩)
      rw [r]
      by_cases w : P b c
      · have r2 : fiP fi y P b c = y := by unfold fiP; exact if_pos (cd_iff.mpr ⟨z, w⟩)
        have r3 : fiP fi y P p q = y := by unfold fiP; exact if_pos (cd_iff.mpr ⟨es.trans z, eP.mpr w⟩)
        rw [if_neg (fun k => hy (r2.symm.trans k.1)), r3]
      · have r2 : fiP fi y P b c = -1 := by
          unfold fiP; rw [if_neg (by rw [cd_iff]; exact fun k => w k.2)]; exact z
        rw [if_pos ⟨r2, e⟩]
    · have r2 : fiP fi y P b c = fi b c := by unfold fiP; rw [if_neg (by rw [cd_iff]; exact fun k => z k.1)]
      rw [if_neg (fun k => z (r2.symm.trans k.1))]
      unfold fiP
      rw [if_neg (by rw [cd_iff]; exact fun k => z (es.symm.trans k.1)), if_neg (by rw [cd_iff]; exact fun k => z (es.symm.trans k.1))]
  · unfold mt1
    rw [if_neg (fun k => e k.2)]
    unfold fiP
    have : cd (fi p q = -1 ∧ P p q) = cd (fi p q = -1 ∧ (P p q ∨ (p = b ∧ q = c) ∨ (p = c ∧ q = b))) := by
      rw [Bool.eq_iff_iff, cd_iff, cd_iff]
      exact ⟨fun k => ⟨k.1, .inl k.2⟩, fun k => ⟨k.1, k.2.resolve_right e⟩⟩
    rw [this]
/-- the bricks of cell m and of its side s -/
def PSd (F : Nat) (B : Nat → Int32) (m s p q : Nat) : Prop := p < 24 ∧ q < 24 ∧ ∃ j, j < pop F ∧ tch F m s = nI j ∧ ((B m = nI p ∧ B j = nI q) ∨ (B m = nI q ∧ B j = nI p))
theorem PSd_ok {F m s : Nat} {B : Nat → Int32} (hB : WB B (pop F)) (h24 : pop F ≤ 24) (hm : m < pop F) : okP (PSd F B m s) := by
  refine ⟨fun p q => ?_, fun p => ?_⟩
  · unfold PSd
    constructor
    · rintro ⟨a, b, j, c, e, f⟩; exact ⟨b, a, j, c, e, f.symm⟩
    · rintro ⟨a, b, j, c, e, f⟩; exact ⟨b, a, j, c, e, f.symm⟩
  · rintro ⟨a, b, j, c, e, f⟩
    have f : B m = nI p ∧ B j = nI p := by rcases f with f | f <;> exact f
    have := hB.2.1 m j hm c (f.1.trans f.2.symm) (by rw [f.1]; exact nI_ne (by omega))
    subst this
    rcases tch_in (s := s) hm with z | ⟨j', h1, h2, h3, _⟩
    · rw [e] at z; exact nI_ne (by omega) z
    · have : j' = m := nI_inj (by omega) (by omega) (h2.symm.trans e)
      subst this
      exact adj_irr h3
theorem okP_or {P Q : Nat → Nat → Prop} (h1 : okP P) (h2 : okP Q) : okP (fun p q => P p q ∨ Q p q) := ⟨fun p q => or_congr (h1.1 p q) (h2.1 p q), fun p z => z.elim (h1.2 p) (h2.2 p)⟩
theorem c_side {X : Nat × (Nat → Int32)} {d : Nat} {I : Nat → Nat → Int32} {J : Nat → Nat → Int64} {F m s yr : Nat} {B : Nat → Int32} {fi : Nat → Nat → Int32} {P : Nat → Nat → Prop} (hd : 3 ≤ d) (hB : WB B (pop F)) (h24 : pop F ≤ 24) (hm : m < pop F) (hok : fiOk fi) (hP : okP P) (hM : MT I (fiP fi (nI yr) P)) (hy : I 1 3 = nI yr) (hyr : yr ≤ 999) :
    ∃ I', callF X d 110 [.ref 1, .int (B m), .int (brI B (pop F) (tch F m s))] (mk I J) = some (none, mk I' J) ∧ MT I' (fiP fi (nI yr) (fun p q => P p q ∨ PSd F B m s p q)) ∧ FrM I I' := by
  have no : (∀ p q, ¬ PSd F B m s p q) → callF X d 110 [.ref 1, .int (B m), .int (brI B (pop F) (tch F m s))] (mk I J) = some (none, mk I J) → ∃ I', callF X d 110 [.ref 1, .int (B m), .int (brI B (pop F) (tch F m s))] (mk I J) = some (none, mk I' J) ∧ MT I' (fiP fi (nI yr) (fun p q => P p q ∨ PSd F B m s p q)) ∧ FrM I I' := fun z c => by
    refine ⟨I, c, ?_, FrM_r I⟩
    rw [fiP_cong (Q := P) (fun p q => ⟨fun k => k.resolve_right (z p q), .inl⟩)]; exact hM
  rcases hB.1 m hm with q | ⟨b, hb, q⟩
  · refine no ?_ (c_meetNo (by omega) (.inl q))
    rintro p p' ⟨p1, p2, j, _, _, f⟩
    rw [q] at f
    rcases f with f | f
    · exact nI_ne (by omega) f.1.symm
    · exact nI_ne (by omega) f.1.symm
  · have hbr : ∀ j, j < pop F → brI B (pop F) (nI j) = B j := fun j hj => by
      unfold brI
      rw [if_pos ⟨by rw [show (0 : Int32) = nI 0 from rfl, nI_leI (by omega) (by omega)]; omega, (nI_ltI (by omega) (by omega)).mpr hj⟩, nI_clamp (by omega)]
    rcases tch_in (s := s) hm with z | ⟨j, h1, h2, h3, _⟩
    · have bz : brI B (pop F) (tch F m s) = -1 := by
        rw [z]; unfold brI; rw [if_neg (by rintro ⟨k, _⟩; exact absurd k (by decide +kernel))]
      refine no ?_ (c_meetNo (by omega) (.inr ⟨bz, b, hb, q⟩))
      rintro p p' ⟨p1, p2, j, hj, e, f⟩
      rw [z] at e; exact nI_ne (by omega) e.symm
    · have ej : brI B (pop F) (tch F m s) = B j := by rw [h2]; exact hbr j h1
      have jm : j ≠ m := fun k => by rw [k] at h3; exact adj_irr h3
      rcases hB.1 j h1 with w | ⟨c, hc, w⟩
      · refine no ?_ (c_meetNo (by omega) (.inr ⟨ej.trans w, b, hb, q⟩))
        rintro p p' ⟨p1, p2, j', hj, e, f⟩
        have : j' = j := nI_inj (by omega) (by omega) (e.symm.trans h2)
        subst this
        rw [w] at f
        rcases f with f | f
        · exact nI_ne (by omega) f.2.symm
        · exact nI_ne (by omega) f.2.symm
      · have hbc : b ≠ c := fun k => jm (hB.2.1 j m h1 hm (by rw [w, q, k]) (by rw [w]; exact nI_ne (by omega)))
        obtain ⟨I', t1, t2, t3⟩ := c_meetBoth (X := X) (J := J) hd hb hc hbc (fiP_ok (y := nI yr) hok hP) hM hy hyr
        refine ⟨I', by rw [ej, q, w]; exact t1, ?_, t3⟩
        rw [fiP_add hok hP (nI_ne (by omega)) hb hc] at t2
        rw [fiP_cong (Q := fun p q => P p q ∨ (p = b ∧ q = c) ∨ (p = c ∧ q = b)) (fun p p' => ?_)]
        · exact t2
        · constructor
          · rintro (k | ⟨p1, p2, j', hj, e, f⟩)
            · exact .inl k
            · have : j' = j := nI_inj (by omega) (by omega) (e.symm.trans h2)
              subst this
              rw [q, w] at f
              rcases f with f | f
              · exact .inr (.inl ⟨(nI_inj (by omega) (by omega) f.1).symm, (nI_inj (by omega) (by omega) f.2).symm⟩)
              · exact .inr (.inr ⟨(nI_inj (by omega) (by omega) f.2).symm, (nI_inj (by omega) (by omega) f.1).symm⟩)
          · rintro (k | ⟨rfl, rfl⟩ | ⟨rfl, rfl⟩)
            · exact .inl k
            · exact .inr ⟨hb, hc, j, h1, h2, .inl ⟨q, w⟩⟩
            · exact .inr ⟨hc, hb, j, h1, h2, .inr ⟨q, w⟩⟩
