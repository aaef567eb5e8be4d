/-! ===== numbers of a state, and what holds in this law between the acts ===== -/
abbrev TN (z : St) : Nat := cn (z 0 0)
abbrev NR (z : St) : Nat := cn (z 1 0)
abbrev NC (z : St) : Nat := cn (z 2 0)
abbrev a_c (z : St) (a : Nat) : Nat := cn (z 11 a)
abbrev a_r (z : St) (a : Nat) : Nat := cn (z 12 a)
abbrev a_d (z : St) (a : Nat) : Nat := cn (z 13 a)
abbrev a_p (z : St) (a : Nat) : Nat := cn (z 14 a)
abbrev a_s (z : St) (a : Nat) : Nat := cn (z 15 a)
abbrev a_m (z : St) (a : Nat) : Nat := cn (z 16 a)
abbrev a_b (z : St) (a : Nat) : Nat := cn (z 17 a)
/-- what holds of an application -/
def AJ (z : St) (a : Nat) : Prop :=
  (a_s z a = 1 → z 7 (a_d z a) = 0) ∧ (a_s z a = 0 → TN z ≤ a_d z a ∧ z 7 (a_d z a) = 0) ∧ (a_s z a = 5 ∨ a_s z a = 6 → a_d z a < TN z) ∧
  (z 16 a = nI (a_m z a) ∧ a_m z a ≤ 4000) ∧ (z 17 a = nI (a_b z a) ∧ a_b z a ≤ a_m z a) ∧ (a_s z a ≠ 3 → a_s z a ≠ 4 → a_b z a = 0) ∧ (a_s z a = 1 ∨ 3 < a_s z a → a_p z a ≤ a_m z a)
def RJ (z : St) (r : Nat) : Prop := z 5 r = nI (cn (z 5 r)) ∧ 1 ≤ cn (z 5 r) ∧ cn (z 5 r) ≤ 12 ∧ z 6 r = nI (cn (z 6 r)) ∧ cn (z 6 r) ≤ cn (z 5 r)
/-- the places that an application takes on a route and a day -/
def tkF (z : St) (r d a : Nat) : Nat := if (a_s z a = 1 ∨ a_s z a = 5 ∨ a_s z a = 6) ∧ a_r z a = r ∧ a_d z a = d then a_p z a else 0
def tkN (z : St) (r d : Nat) : Nat := nS (tkF z r d) (nA z)
def TJ (z : St) : Prop := ∀ r, r < NR z → ∀ d, d < 60 → tkN z r d ≤ cn (z 5 r)
def J (z : St) : Prop := (∀ a, a < nA z → AJ z a) ∧ (∀ r, r < NR z → RJ z r) ∧ TJ z ∧ 1 ≤ NR z ∧ 1 ≤ NC z
def JI (z : St) (b : Nat) : Prop := Inv z b ∧ b ≤ 50000 ∧ J z
theorem JI.inv {z : St} {b : Nat} (h : JI z b) : Inv z b := h.1
theorem JI.oi {z : St} {b : Nat} (h : JI z b) : OI z b := h.1.2.1
theorem JI.io {z : St} {b : Nat} (h : JI z b) : IO z := h.1.2.1.1
theorem JI.po {z : St} {b : Nat} (h : JI z b) : PO z := h.1.1
theorem JI.j {z : St} {b : Nat} (h : JI z b) : J z := h.2.2
theorem JI.bb {z : St} {b : Nat} (h : JI z b) : b ≤ 50000 := h.2.1
theorem JI.m0 {z : St} {b : Nat} (h : JI z b) : ∀ c, c < 12 → 0 ≤ z 8 c := h.oi.m0 (by have := h.bb; omega)
theorem JI.h17 {z : St} {b : Nat} (h : JI z b) : ∀ a, a < nA z → ¬ z 15 a = 1 → aliveP z a → z 17 a = 0 := fun a ha _ hal => h.oi.h17 a ha hal
/-- all that is known of an application -/
theorem OI.ap {z : St} {b : Nat} (h : OI z b) {a : Nat} (ha : a < nA z) :
    (z 11 a = nI (a_c z a) ∧ a_c z a < NC z ∧ a_c z a < 12) ∧ (z 12 a = nI (a_r z a) ∧ a_r z a < NR z ∧ a_r z a < 6) ∧ (z 13 a = nI (a_d z a) ∧ a_d z a < 60) ∧
    (z 14 a = nI (a_p z a) ∧ 1 ≤ a_p z a ∧ a_p z a ≤ 4) ∧ (z 15 a = nI (a_s z a) ∧ a_s z a < 7) ∧ a < 40 := by
  have hI := h.io
  have h40 := (iNa hI).2
  obtain ⟨s, hs, es⟩ := h.st a ha
  obtain ⟨p, p1, p2, ep⟩ := h.par a ha
  have hr := h.rin a ha
  have hr2 : a_r z a < NR z := by
    have e := hr.2
    rw [(iR hI ha).1, (iNr hI).1] at e
    have q1 := (iR hI ha).2
    have q2 := (iNr hI).2
    have q3 : cn (z 12 a) < cn (z 1 0) := (nI_ltI (a := cn (z 12 a)) (b := cn (z 1 0)) (by omega) (by omega)).mp e
    exact q3
  refine ⟨⟨(iC hI ha).1, h.cin a ha, (iC hI ha).2⟩, ⟨(iR hI ha).1, hr2, (iR hI ha).2⟩, iD hI ha, ?_, ?_, by omega⟩
  · show z 14 a = nI (cn (z 14 a)) ∧ 1 ≤ cn (z 14 a) ∧ cn (z 14 a) ≤ 4
    rw [ep, cn_nI (by omega)]; exact ⟨rfl, p1, p2⟩
  · show z 15 a = nI (cn (z 15 a)) ∧ cn (z 15 a) < 7
    rw [es, cn_nI (by omega)]; exact ⟨rfl, hs⟩
theorem JI.ap {z : St} {b : Nat} (h : JI z b) {a : Nat} (ha : a < nA z) :
    (z 11 a = nI (a_c z a) ∧ a_c z a < NC z ∧ a_c z a < 12) ∧ (z 12 a = nI (a_r z a) ∧ a_r z a < NR z ∧ a_r z a < 6) ∧ (z 13 a = nI (a_d z a) ∧ a_d z a < 60) ∧
    (z 14 a = nI (a_p z a) ∧ 1 ≤ a_p z a ∧ a_p z a ≤ 4) ∧ (z 15 a = nI (a_s z a) ∧ a_s z a < 7) ∧ a < 40 := h.oi.ap ha
theorem JI.t0 {z : St} {b : Nat} (h : JI z b) : z 0 0 = nI (TN z) ∧ TN z < 60 := iT h.io
theorem JI.nr {z : St} {b : Nat} (h : JI z b) : z 1 0 = nI (NR z) ∧ NR z ≤ 6 ∧ 1 ≤ NR z := ⟨(iNr h.io).1, (iNr h.io).2, h.j.2.2.2.1⟩
theorem JI.nc {z : St} {b : Nat} (h : JI z b) : z 2 0 = nI (NC z) ∧ NC z ≤ 12 ∧ 1 ≤ NC z := ⟨(iNc h.io).1, (iNc h.io).2, h.j.2.2.2.2⟩
theorem JI.na {z : St} {b : Nat} (h : JI z b) : z 3 0 = nI (nA z) ∧ nA z ≤ 40 := iNa h.io
theorem JI.aj {z : St} {b : Nat} (h : JI z b) {a : Nat} (ha : a < nA z) : AJ z a := h.j.1 a ha
theorem JI.rj {z : St} {b : Nat} (h : JI z b) {r : Nat} (hr : r < NR z) : RJ z r := h.j.2.1 r hr
theorem JI.tj {z : St} {b : Nat} (h : JI z b) {r d : Nat} (hr : r < NR z) (hd : d < 60) : tkN z r d ≤ cn (z 5 r) := h.j.2.2.1 r hr d hd
theorem JI.wt {z : St} {b : Nat} (h : JI z b) {a : Nat} (ha : a < nA z) (h1 : a_s z a = 1) : TN z ≤ a_d z a := by
  have e := h.oi.ht a ha (by rw [(h.ap ha).2.2.2.2.1.1, h1]; rfl)
  rw [h.t0.1, (h.ap ha).2.2.1.1] at e
  exact (nI_leI (by have := h.t0.2; omega) (by have := (h.ap ha).2.2.1.2; omega)).mp e
theorem JI.dayP {z : St} {b : Nat} (_h : JI z b) {d : Nat} (hd : d < 60) : dayP (nI d) := ⟨nI_pos' (by omega), (nI_ltI (b := 60) (by omega) (by decide)).mpr hd⟩
theorem JI.rP {z : St} {b : Nat} (h : JI z b) {r : Nat} (hr : r < NR z) : routeP z (nI r) := ⟨nI_pos' (by have := h.nr.2.1; omega), by rw [h.nr.1]; exact (nI_ltI (by have := h.nr.2.1; omega) (by have := h.nr.2.1; omega)).mpr hr⟩
theorem JI.cP {z : St} {b : Nat} (h : JI z b) {c : Nat} (hc : c < NC z) : climP z (nI c) := ⟨nI_pos' (by have := h.nc.2.1; omega), by rw [h.nc.1]; exact (nI_ltI (by have := h.nc.2.1; omega) (by have := h.nc.2.1; omega)).mpr hc⟩
theorem JI.aP {z : St} {b : Nat} (h : JI z b) {a : Nat} (ha : a < nA z) : appP z (nI a) := ⟨nI_pos' (by have := h.na.2; omega), by rw [h.na.1]; exact (nI_ltI (by have := h.na.2; omega) (by have := h.na.2; omega)).mpr ha⟩
/-! sums -/
theorem nS_congr {f g : Nat → Nat} {n : Nat} (h : ∀ a, a < n → f a = g a) : nS f n = nS g n := by
  induction n with
  | zero => rfl
  | succ n ih => show nS f n + f n = nS g n + g n; rw [ih (fun a ha => h a (by omega)), h n (by omega)]
theorem nS_leF {f g : Nat → Nat} {n : Nat} (h : ∀ a, a < n → f a ≤ g a) : nS f n ≤ nS g n := by
  induction n with
  | zero => exact Nat.le_refl _
  | succ n ih =>
    have h1 := ih (fun a ha => h a (by omega))
    have h2 := h n (by omega)
    show nS f n + f n ≤ nS g n + g n
    omega
theorem nS_pt {f g : Nat → Nat} {a : Nat} : ∀ {n : Nat}, a < n → (∀ b, b < n → b ≠ a → f b = g b) → nS f n + g a = nS g n + f a := by
  intro n
  induction n with
  | zero => intro h; omega
  | succ n ih =>
    intro ha h
    show nS f n + f n + g a = nS g n + g n + f a
    by_cases e : a = n
    · subst e
      rw [nS_congr (f := f) (g := g) (fun b hb => h b (by omega) (by omega))]
      omega
    · have h1 := ih (by omega) (fun b hb hne => h b (by omega) hne)
      have h2 := h n (by omega) (fun q => e q.symm)
      omega
theorem nS_0 {f : Nat → Nat} {n : Nat} (h : ∀ a, a < n → f a = 0) : nS f n = 0 := by
  have := nS_le (t := f) (b := 0) (k := n) (fun a ha => by rw [h a ha]; exact Nat.le_refl _)
  omega
theorem nS_add {f g : Nat → Nat} {n : Nat} : nS (fun a => f a + g a) n = nS f n + nS g n := by
  induction n with
  | zero => rfl
  | succ n ih => show nS _ n + (f n + g n) = nS f n + f n + (nS g n + g n); rw [ih]; omega
/-! getters -/
section GETS
variable {z : St} {b : Nat}
theorem ct0 (h : JI z b) : spCount z 0 = nI (TN z) := by
  unfold spCount; rw [if_neg (by decide), if_neg (by decide), if_pos rfl]; exact h.t0.1
theorem ct1 (h : JI z b) : spCount z 1 = nI (NR z) := by
  unfold spCount; rw [if_neg (by decide), if_neg (by decide), if_neg (by decide), if_pos rfl]; exact h.nr.1
theorem ct2 (h : JI z b) : spCount z 2 = nI (NC z) := by
  unfold spCount; rw [if_neg (by decide), if_neg (by decide), if_neg (by decide), if_neg (by decide), if_pos rfl]; exact h.nc.1
theorem ct3 (h : JI z b) : spCount z 3 = nI (nA z) := by
  unfold spCount; rw [if_neg (by decide), if_neg (by decide), if_neg (by decide), if_neg (by decide), if_neg (by decide), if_pos rfl]; exact h.na.1
theorem ct11 (_h : JI z b) : spCount z 11 = paidBy z (-1) := by
  unfold spCount; rw [if_neg (by decide), if_neg (by decide), if_neg (by decide), if_neg (by decide), if_neg (by decide), if_neg (by decide), if_pos rfl]
theorem ct12 (_h : JI z b) : spCount z 12 = backTo z (-1) := by
  unfold spCount; rw [if_neg (by decide), if_neg (by decide), if_neg (by decide), if_neg (by decide), if_neg (by decide), if_neg (by decide), if_neg (by decide), if_pos rfl]
theorem ct13 (_h : JI z b) : spCount z 13 = closedN z := by
  unfold spCount; rw [if_neg (by decide), if_neg (by decide), if_neg (by decide), if_neg (by decide), if_neg (by decide), if_neg (by decide), if_neg (by decide), if_neg (by decide), if_pos rfl]
theorem ct14 (_h : JI z b) : spCount z 14 = z 69 0 := by
  unfold spCount; rw [if_neg (by decide), if_neg (by decide), if_neg (by decide), if_neg (by decide), if_neg (by decide), if_neg (by decide), if_neg (by decide), if_neg (by decide), if_neg (by decide), if_pos rfl]
theorem ctS {s : Nat} (hs : s < 6) : spCount z (nI (15 + s)) = z 4 s := by
  have e : s = 0 ∨ s = 1 ∨ s = 2 ∨ s = 3 ∨ s = 4 ∨ s = 5 := by omega
  rcases e with rfl | rfl | rfl | rfl | rfl | rfl <;> (unfold spCount; rw [if_neg (by decide), if_pos (by decide)]; exact congrArg (z 4) (by decide))
theorem ct15 (_h : JI z b) : spCount z 15 = z 4 0 := ctS (s := 0) (by decide)
theorem ct16 (_h : JI z b) : spCount z 16 = z 4 1 := ctS (s := 1) (by decide)
theorem ct17 (_h : JI z b) : spCount z 17 = z 4 2 := ctS (s := 2) (by decide)
theorem ct18 (_h : JI z b) : spCount z 18 = z 4 3 := ctS (s := 3) (by decide)
theorem ct19 (_h : JI z b) : spCount z 19 = z 4 4 := ctS (s := 4) (by decide)
theorem ct20 (_h : JI z b) : spCount z 20 = z 4 5 := ctS (s := 5) (by decide)
theorem ctK {k : Nat} (h1 : 4 ≤ k) (h2 : k ≤ 10) : spCount z (nI k) = cntIn z (-1) (nI (k - 4)) := by
  have e : k = 4 ∨ k = 5 ∨ k = 6 ∨ k = 7 ∨ k = 8 ∨ k = 9 ∨ k = 10 := by omega
  rcases e with rfl | rfl | rfl | rfl | rfl | rfl | rfl <;> (unfold spCount; rw [if_pos (by decide)]; exact congrArg (cntIn z (-1)) (by decide))
theorem cn_a {a : Nat} (h : JI z b) (ha : a < nA z) : cn (nI a) = a := cn_nI (by have := h.na.2; omega)
theorem ap0 (h : JI z b) {a : Nat} (ha : a < nA z) : spApp z (nI a) 0 = nI (a_c z a) := by
  unfold spApp; rw [if_neg (not_not_intro (h.aP ha)), if_pos rfl, cn_a h ha]; exact (h.ap ha).1.1
theorem ap1 (h : JI z b) {a : Nat} (ha : a < nA z) : spApp z (nI a) 1 = nI (a_r z a) := by
  unfold spApp; rw [if_neg (not_not_intro (h.aP ha)), if_neg (by decide), if_pos rfl, cn_a h ha]; exact (h.ap ha).2.1.1
theorem ap2 (h : JI z b) {a : Nat} (ha : a < nA z) : spApp z (nI a) 2 = nI (a_d z a) := by
  unfold spApp; rw [if_neg (not_not_intro (h.aP ha)), if_neg (by decide), if_neg (by decide), if_pos rfl, cn_a h ha]; exact (h.ap ha).2.2.1.1
theorem ap3 (h : JI z b) {a : Nat} (ha : a < nA z) : spApp z (nI a) 3 = nI (a_p z a) := by
  unfold spApp; rw [if_neg (not_not_intro (h.aP ha)), if_neg (by decide), if_neg (by decide), if_neg (by decide), if_pos rfl, cn_a h ha]; exact (h.ap ha).2.2.2.1.1
theorem ap4 (h : JI z b) {a : Nat} (ha : a < nA z) : spApp z (nI a) 4 = nI (a_s z a) := by
  unfold spApp; rw [if_neg (not_not_intro (h.aP ha)), if_neg (by decide), if_neg (by decide), if_neg (by decide), if_neg (by decide), if_pos rfl, cn_a h ha]; exact (h.ap ha).2.2.2.2.1.1
theorem ap5 (h : JI z b) {a : Nat} (ha : a < nA z) : spApp z (nI a) 5 = nI (a_m z a) := by
  unfold spApp; rw [if_neg (not_not_intro (h.aP ha)), if_neg (by decide), if_neg (by decide), if_neg (by decide), if_neg (by decide), if_neg (by decide), if_pos rfl, cn_a h ha]; exact (h.aj ha).2.2.2.1.1
theorem ap6 (h : JI z b) {a : Nat} (ha : a < nA z) : spApp z (nI a) 6 = nI (a_b z a) := by
  unfold spApp; rw [if_neg (not_not_intro (h.aP ha)), if_neg (by decide), if_neg (by decide), if_neg (by decide), if_neg (by decide), if_neg (by decide), if_neg (by decide), if_pos rfl, cn_a h ha]; exact (h.aj ha).2.2.2.2.1.1
theorem ap7 (h : JI z b) {a : Nat} (ha : a < nA z) : spApp z (nI a) 7 = z 18 a := by
  unfold spApp; rw [if_neg (not_not_intro (h.aP ha)), if_neg (by decide), if_neg (by decide), if_neg (by decide), if_neg (by decide), if_neg (by decide), if_neg (by decide), if_neg (by decide), if_pos rfl, cn_a h ha]
  rcases h.oi.h18 a (h.ap ha).2.2.2.2.2 with e | e <;> rw [e] <;> rfl
theorem ap8 (h : JI z b) {a : Nat} (ha : a < nA z) : spApp z (nI a) 8 = z 19 a := by
  unfold spApp; rw [if_neg (not_not_intro (h.aP ha)), if_neg (by decide), if_neg (by decide), if_neg (by decide), if_neg (by decide), if_neg (by decide), if_neg (by decide), if_neg (by decide), if_neg (by decide), if_pos rfl, cn_a h ha]
theorem ap9 (h : JI z b) {a : Nat} (ha : a < nA z) : spApp z (nI a) 9 = tkt z a := by
  unfold spApp; rw [if_neg (not_not_intro (h.aP ha)), if_neg (by decide), if_neg (by decide), if_neg (by decide), if_neg (by decide), if_neg (by decide), if_neg (by decide), if_neg (by decide), if_neg (by decide), if_neg (by decide), if_pos rfl, cn_a h ha]
theorem cn_c {c : Nat} (h : JI z b) (hc : c < NC z) : cn (nI c) = c := cn_nI (by have := h.nc.2.1; omega)
theorem cl0 (h : JI z b) {c : Nat} (hc : c < NC z) : spClimber z (nI c) 0 = z 8 c := by
  unfold spClimber; rw [if_neg (not_not_intro (h.cP hc)), if_pos rfl, cn_c h hc]
theorem cl1 (h : JI z b) {c : Nat} (hc : c < NC z) : spClimber z (nI c) 1 = z 9 c := by
  unfold spClimber; rw [if_neg (not_not_intro (h.cP hc)), if_neg (by decide), if_pos rfl, cn_c h hc]
theorem cl2 (h : JI z b) {c : Nat} (hc : c < NC z) : spClimber z (nI c) 2 = z 10 c := by
  unfold spClimber; rw [if_neg (not_not_intro (h.cP hc)), if_neg (by decide), if_neg (by decide), if_pos rfl, cn_c h hc]
theorem cl4 (h : JI z b) {c : Nat} (hc : c < NC z) : spClimber z (nI c) 4 = paidBy z (nI c) := by
  unfold spClimber; rw [if_neg (not_not_intro (h.cP hc)), if_neg (by decide), if_neg (by decide), if_neg (by decide), if_neg (by decide), if_pos rfl]
theorem cl5 (h : JI z b) {c : Nat} (hc : c < NC z) : spClimber z (nI c) 5 = backTo z (nI c) := by
  unfold spClimber; rw [if_neg (not_not_intro (h.cP hc)), if_neg (by decide), if_neg (by decide), if_neg (by decide), if_neg (by decide), if_neg (by decide), if_pos rfl]
theorem cl6 (h : JI z b) {c : Nat} (hc : c < NC z) : spClimber z (nI c) 6 = cntBy z (nI c) := by
  unfold spClimber; rw [if_neg (not_not_intro (h.cP hc)), if_neg (by decide), if_neg (by decide), if_neg (by decide), if_neg (by decide), if_neg (by decide), if_neg (by decide), if_pos rfl]
theorem cn_r {r : Nat} (h : JI z b) (hr : r < NR z) : cn (nI r) = r := cn_nI (by have := h.nr.2.1; omega)
/-- the applications of a route and a day in a state -/
def stF (z : St) (r d s a : Nat) : Nat := if (a_r z a = r ∧ a_d z a = d) ∧ a_s z a = s then 1 else 0
def stN (z : St) (r d s : Nat) : Nat := nS (stF z r d s) (nA z)
/-- the places left for a lottery -/
def pl_N (z : St) (r d : Nat) : Nat := cn (z 5 r) - tkN z r d - cn (z 6 r)
theorem OI.tk_n (h : OI z b) {r d : Nat} (hr : r < NR z) (hd : d < 60) : taken z (nI r) (nI d) = nI (tkN z r d) := by
  have h6 : NR z ≤ 6 := (iNr h.io).2
  unfold taken tkN
  refine sm_nS (fun a ha => ?_)
  obtain ⟨-, ⟨e12, -, r6⟩, ⟨e13, d6⟩, ⟨e14, -⟩, ⟨e15, s7⟩, -⟩ := h.ap ha
  unfold tkF
  have q1 : (takesP z a ∧ onP z a (nI r) (nI d)) ↔ ((a_s z a = 1 ∨ a_s z a = 5 ∨ a_s z a = 6) ∧ a_r z a = r ∧ a_d z a = d) := by
    unfold takesP onP
    rw [e15, e12, e13]
    have f1 : nI (a_s z a) = 1 ↔ a_s z a = 1 := nI_eq (b := 1) (by omega) (by decide)
    have f5 : nI (a_s z a) = 5 ↔ a_s z a = 5 := nI_eq (b := 5) (by omega) (by decide)
    have f6 : nI (a_s z a) = 6 ↔ a_s z a = 6 := nI_eq (b := 6) (by omega) (by decide)
    have g1 : nI (a_r z a) = nI r ↔ a_r z a = r := nI_eq (by omega) (by omega)
    have g2 : nI (a_d z a) = nI d ↔ a_d z a = d := nI_eq (by omega) (by omega)
    rw [f1, f5, f6, g1, g2]
  by_cases c : takesP z a ∧ onP z a (nI r) (nI d)
  · rw [if_pos c, if_pos (q1.mp c)]; exact e14
  · rw [if_neg c, if_neg (fun e => c (q1.mpr e))]; rfl
theorem OI.tk_le (h : OI z b) (r d : Nat) : tkN z r d ≤ 160 := by
  have := nS_le (t := tkF z r d) (b := 4) (k := nA z) (fun a ha => by have := (h.ap ha).2.2.2.1.2.2; unfold tkF; split <;> omega)
  have h40 := (iNa h.io).2
  unfold tkN; omega
theorem taken_n (h : JI z b) {r d : Nat} (hr : r < NR z) (hd : d < 60) : taken z (nI r) (nI d) = nI (tkN z r d) := h.oi.tk_n hr hd
theorem inSt_n (h : JI z b) {r d s : Nat} (hr : r < NR z) (hd : d < 60) (hs : s < 7) : inSt z (nI r) (nI d) (nI s) = nI (stN z r d s) := by
  have h6 := h.nr.2.1
  unfold inSt stN
  refine sm_nS (fun a ha => ?_)
  obtain ⟨-, ⟨e12, -, r6⟩, ⟨e13, d6⟩, -, ⟨e15, s7⟩, -⟩ := h.ap ha
  unfold stF
  have q1 : (onP z a (nI r) (nI d) ∧ z 15 a = nI s) ↔ ((a_r z a = r ∧ a_d z a = d) ∧ a_s z a = s) := by
    unfold onP
    rw [e15, e12, e13]
    have f1 : nI (a_s z a) = nI s ↔ a_s z a = s := nI_eq (by omega) (by omega)
    have g1 : nI (a_r z a) = nI r ↔ a_r z a = r := nI_eq (by omega) (by omega)
    have g2 : nI (a_d z a) = nI d ↔ a_d z a = d := nI_eq (by omega) (by omega)
    rw [f1, g1, g2]
  by_cases c : onP z a (nI r) (nI d) ∧ z 15 a = nI s
  · rw [if_pos c, if_pos (q1.mp c)]; rfl
  · rw [if_neg c, if_neg (fun e => c (q1.mpr e))]; rfl
theorem stN_le (z : St) (r d s : Nat) : stN z r d s ≤ nA z := by
  have := nS_le (t := stF z r d s) (b := 1) (k := nA z) (fun a _ => by unfold stF; split <;> omega)
  unfold stN; omega
/-- free and left places, as differences of numbers -/
theorem OI.free_i (h : OI z b) {r d : Nat} (hR : RJ z r) (hr : r < NR z) (hd : d < 60) : (freeP z (nI r) (nI d)).toInt = (cn (z 5 r) : Int) - tkN z r d := by
  have h6 : NR z ≤ 6 := (iNr h.io).2
  have hk := h.tk_le r d
  obtain ⟨e5, l1, l2, e6, l3⟩ := hR
  unfold freeP
  rw [h.tk_n hr hd, cn_nI (by omega), e5, pk_sub_toInt (by omega) (by omega), cn_nI (by omega)]
theorem OI.left_i (h : OI z b) {r d : Nat} (hR : RJ z r) (hr : r < NR z) (hd : d < 60) : (leftP z (nI r) (nI d)).toInt = (cn (z 5 r) : Int) - tkN z r d - cn (z 6 r) := by
  have h6 : NR z ≤ 6 := (iNr h.io).2
  have hk := h.tk_le r d
  have hf := h.free_i hR hr hd
  obtain ⟨e5, l1, l2, e6, l3⟩ := hR
  unfold leftP
  rw [Int32.toInt_sub, hf, cn_nI (by omega), e6, nI_toInt (by omega), cn_nI (by omega)]
  exact Int.bmod_eq_of_le (by omega) (by omega)
theorem OI.fit_free (h : OI z b) {r d p : Nat} (hR : RJ z r) (hr : r < NR z) (hd : d < 60) (hp : p < 2 ^ 30) : nI p ≤ freeP z (nI r) (nI d) ↔ p + tkN z r d ≤ cn (z 5 r) := by
  rw [Int32.le_iff_toInt_le, h.free_i hR hr hd, nI_toInt (by omega)]
  omega
theorem OI.fit_left (h : OI z b) {r d p : Nat} (hR : RJ z r) (hr : r < NR z) (hd : d < 60) (hp : p < 2 ^ 30) : nI p ≤ leftP z (nI r) (nI d) ↔ p + tkN z r d + cn (z 6 r) ≤ cn (z 5 r) := by
  rw [Int32.le_iff_toInt_le, h.left_i hR hr hd, nI_toInt (by omega)]
  omega
theorem left_n (h : JI z b) {r d : Nat} (hr : r < NR z) (hd : d < 60) : (if 0 < leftP z (nI r) (nI d) then leftP z (nI r) (nI d) else 0) = nI (pl_N z r d) := by
  have e := h.oi.left_i (h.rj hr) hr hd
  obtain ⟨e5, l1, l2, e6, l3⟩ := h.rj hr
  have e0 : (0 : Int32).toInt = 0 := by decide
  unfold pl_N
  by_cases q : 0 < leftP z (nI r) (nI d)
  · rw [if_pos q]
    rw [Int32.lt_iff_toInt_lt, e0] at q
    rw [← Int32.toInt_inj, e, nI_toInt (by omega)]
    omega
  · rw [if_neg q]
    rw [Int32.lt_iff_toInt_lt, e0] at q
    rw [show cn (z 5 r) - tkN z r d - cn (z 6 r) = 0 from by omega]; rfl
theorem rt0 (h : JI z b) {r d : Nat} (hr : r < NR z) (hd : d < 60) : spOnRoute z (nI r) (nI d) 0 = nI (cn (z 5 r)) := by
  unfold spOnRoute; rw [if_neg (not_not_intro ⟨h.rP hr, h.dayP hd⟩), if_pos rfl, cn_r h hr]; exact (h.rj hr).1
theorem rt1 (h : JI z b) {r d : Nat} (hr : r < NR z) (hd : d < 60) : spOnRoute z (nI r) (nI d) 1 = nI (cn (z 6 r)) := by
  unfold spOnRoute; rw [if_neg (not_not_intro ⟨h.rP hr, h.dayP hd⟩), if_neg (by decide), if_pos rfl, cn_r h hr]; exact (h.rj hr).2.2.2.1
theorem rt2 (h : JI z b) {r d : Nat} (hr : r < NR z) (hd : d < 60) : spOnRoute z (nI r) (nI d) 2 = nI (tkN z r d) := by
  unfold spOnRoute; rw [if_neg (not_not_intro ⟨h.rP hr, h.dayP hd⟩), if_neg (by decide), if_neg (by decide), if_pos rfl]; exact taken_n h hr hd
theorem rt3 (h : JI z b) {r d : Nat} (hr : r < NR z) (hd : d < 60) : spOnRoute z (nI r) (nI d) 3 = nI (pl_N z r d) := by
  unfold spOnRoute; rw [if_neg (not_not_intro ⟨h.rP hr, h.dayP hd⟩), if_neg (by decide), if_neg (by decide), if_neg (by decide), if_pos rfl]; exact left_n h hr hd
theorem rt4 (h : JI z b) {r d : Nat} (hr : r < NR z) (hd : d < 60) : spOnRoute z (nI r) (nI d) 4 = nI (stN z r d 0) := by
  unfold spOnRoute; rw [if_neg (not_not_intro ⟨h.rP hr, h.dayP hd⟩), if_neg (by decide), if_neg (by decide), if_neg (by decide), if_neg (by decide), if_pos rfl]; exact inSt_n (s := 0) h hr hd (by decide)
theorem rt5 (h : JI z b) {r d : Nat} (hr : r < NR z) (hd : d < 60) : spOnRoute z (nI r) (nI d) 5 = nI (stN z r d 2) := by
  unfold spOnRoute; rw [if_neg (not_not_intro ⟨h.rP hr, h.dayP hd⟩), if_neg (by decide), if_neg (by decide), if_neg (by decide), if_neg (by decide), if_neg (by decide), if_pos rfl]; exact inSt_n (s := 2) h hr hd (by decide)
end GETS
