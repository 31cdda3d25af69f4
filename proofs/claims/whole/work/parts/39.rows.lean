-- rows as they change, without a machine; and how the class's towns hold them
def ltG (g : Int → Int) (l : Int) : Int := ltI (g (14 + l)) (g (21 + l)) (g (6 + l)) (g 0)
def tkG (g : Int → Int) (o l : Int) : Int := tkI (g (29 + o)) (ltG g l) (g (1 + o))
def hotG (g : Int → Int) : Int := sumF (fun j => hot1 (g (1 + (j : Int)))) 0 (g 28).toNat
def heatG (g : Int → Int) : Int := sumF (fun j => g (1 + (j : Int))) 0 (g 28).toNat
def rLie (g : Int → Int) (kd u : Int) : Int → Int := fun i => if i = 14 + g 13 then kd else if i = 21 + g 13 then u else if i = 6 + g 13 then 0 else if i = 13 then g 13 + 1 else g i
def rOven (g : Int → Int) (kd : Int) : Int → Int := fun i => if i = 29 + g 28 then kd else if i = 1 + g 28 then 0 else if i = 28 then g 28 + 1 else g i
def r0 (g : Int → Int) (k : Int) : Int → Int := fun i => if i = k then 0 else g i
def rSay (g : Int → Int) (l o : Int) : Int → Int := fun i => if i = 6 + l then kn1 (g (6 + l)) else if i = 1 + o then heI (g (1 + o)) (tkG g o l) else g i
def rDay (g : Int → Int) : Int → Int := fun i => if 1 ≤ i ∧ i < 6 then coI (g i) 1 else if i = 0 then g 0 + 1 else g i
def rDays : Nat → (Int → Int) → Int → Int
  | 0, g => g
  | n + 1, g => if 9999 ≤ g 0 then g else rDays n (rDay g)
def rDrop (g : Int → Int) : Int → Int := fun i => if 117 ≤ i ∧ i < 208 then g (i + 13) else if i = 116 then 7 else g i
def rPut (g : Int → Int) : Int → Int := fun i => if 117 + 13 * g 116 ≤ i ∧ i < 130 + 13 * g 116 then g (i - (117 + 13 * g 116)) else if i = 116 then g 116 + 1 else g i
def rRem (g : Int → Int) : Int → Int := if 8 ≤ g 116 then rPut (rDrop g) else rPut g
def rUndo (g : Int → Int) : Int → Int := fun i => if 0 ≤ i ∧ i < 13 then g (117 + 13 * (g 116 - 1) + i) else if i = 116 then g 116 - 1 else g i
def rTab (g : Int → Int) (z b w : Int) (v : Int → Int) : Int → Int := fun i => if b + w * g z ≤ i ∧ i < b + w * g z + w then v (i - (b + w * g z)) else if i = z then g z + 1 else g i
section ROWS
variable {σ τ : SG} {g h : Int → Int} {t : Nat}
theorem TRc_rest (hT : TRc σ t g) (hG : GOK g) (hs : ∀ a b, t + 6 ≤ a → a ≤ t + 13 → gg τ a b = gg σ a b) (hg : ∀ i : Int, 34 ≤ i → i < 221 → h i = g i) (e13 : h 13 = g 13) (e28 : h 28 = g 28)
    (c1 : gg τ t 0 = h 13 ∧ gg τ t 1 = h 28 ∧ gg τ t 2 = h 0)
    (c2 : ∀ l : Int, 0 ≤ l → l < g 13 → ga τ (t + 1) l = h (14 + l) ∧ ga τ (t + 2) l = h (21 + l) ∧ ga τ (t + 3) l = h (6 + l))
    (c3 : ∀ o : Int, 0 ≤ o → o < g 28 → ga τ (t + 4) o = h (29 + o) ∧ ga τ (t + 5) o = h (1 + o)) : TRc τ t h := by
  have hga : ∀ a (x : Int), t + 6 ≤ a → a ≤ t + 13 → ga τ a x = ga σ a x := fun a x h1 h2 => hs a _ h1 h2
  obtain ⟨g1, g2, g3, g4, g5, ⟨g6, -⟩, ⟨g7, -⟩, ⟨g8, -⟩, ⟨g9, -⟩⟩ := hG
  obtain ⟨⟨e0, e1, e2⟩, hl, ho, ⟨s1, s2⟩, ⟨n1, n2⟩, ⟨m1, m2⟩, ⟨p1, p2⟩⟩ := hT
  have h34 := hg 34 (by omega) (by omega)
  have h60 := hg 60 (by omega) (by omega)
  have h91 := hg 91 (by omega) (by omega)
  have h116 := hg 116 (by omega) (by omega)
  refine ⟨c1, fun l a b => c2 l a (by omega), fun o a b => c3 o a (by omega), ⟨by rw [hs _ _ (by omega) (by omega), s1, h34], fun i a b => ?_⟩, ⟨by rw [hs _ _ (by omega) (by omega), n1, h60], fun i a b => ?_⟩, ⟨by rw [hs _ _ (by omega) (by omega), m1, h91], fun i a b => ?_⟩, ⟨by rw [hs _ _ (by omega) (by omega), p1, h116], fun p a b => ?_⟩⟩
  · rw [hga _ _ (by omega) (by omega), hg (35 + i) (by omega) (by omega)]
    exact s2 i a (by omega)
  · rw [hga _ _ (by omega) (by omega), hg (61 + i) (by omega) (by omega)]
    exact n2 i a (by omega)
  · rw [hga _ _ (by omega) (by omega), hg (92 + i) (by omega) (by omega)]
    exact m2 i a (by omega)
  · obtain ⟨q1, q2, q3⟩ := p2 p a (by omega)
    refine ⟨fun o c f => ?_, fun l c f => ?_, ?_⟩
    · rw [hga _ _ (by omega) (by omega), hg (118 + 13 * p + o) (by omega) (by omega)]
      exact q1 o c (by omega)
    · rw [hga _ _ (by omega) (by omega), hg (123 + 13 * p + l) (by omega) (by omega)]
      exact q2 l c (by omega)
    · rw [hga _ _ (by omega) (by omega), hg (117 + 13 * p) (by omega) (by omega)]
      exact q3
/-- as TRc_rest, where nothing may be undone -/
theorem TRc_rest0 (hT : TRc σ t g) (hG : GOK g) (hs : ∀ a b, t + 6 ≤ a → a ≤ t + 13 → gg τ a b = gg σ a b) (hg : ∀ i : Int, 34 ≤ i → i < 116 → h i = g i) (e116 : h 116 = g 116) (z116 : g 116 = 0)
    (c1 : gg τ t 0 = h 13 ∧ gg τ t 1 = h 28 ∧ gg τ t 2 = h 0)
    (c2 : ∀ l : Int, 0 ≤ l → l < h 13 → ga τ (t + 1) l = h (14 + l) ∧ ga τ (t + 2) l = h (21 + l) ∧ ga τ (t + 3) l = h (6 + l))
    (c3 : ∀ o : Int, 0 ≤ o → o < h 28 → ga τ (t + 4) o = h (29 + o) ∧ ga τ (t + 5) o = h (1 + o)) : TRc τ t h := by
  have hga : ∀ a (x : Int), t + 6 ≤ a → a ≤ t + 13 → ga τ a x = ga σ a x := fun a x h1 h2 => hs a _ h1 h2
  obtain ⟨g1, g2, g3, g4, g5, ⟨g6, -⟩, ⟨g7, -⟩, ⟨g8, -⟩, ⟨g9, -⟩⟩ := hG
  obtain ⟨⟨e0, e1, e2⟩, hl, ho, ⟨s1, s2⟩, ⟨n1, n2⟩, ⟨m1, m2⟩, ⟨p1, p2⟩⟩ := hT
  have h34 := hg 34 (by omega) (by omega)
  have h60 := hg 60 (by omega) (by omega)
  have h91 := hg 91 (by omega) (by omega)
  refine ⟨c1, c2, c3, ⟨by rw [hs _ _ (by omega) (by omega), s1, h34], fun i a b => ?_⟩, ⟨by rw [hs _ _ (by omega) (by omega), n1, h60], fun i a b => ?_⟩, ⟨by rw [hs _ _ (by omega) (by omega), m1, h91], fun i a b => ?_⟩, ⟨by rw [hs _ _ (by omega) (by omega), p1, e116], fun p a b => by omega⟩⟩
  · rw [hga _ _ (by omega) (by omega), hg (35 + i) (by omega) (by omega)]
    exact s2 i a (by omega)
  · rw [hga _ _ (by omega) (by omega), hg (61 + i) (by omega) (by omega)]
    exact n2 i a (by omega)
  · rw [hga _ _ (by omega) (by omega), hg (92 + i) (by omega) (by omega)]
    exact m2 i a (by omega)
theorem ltT_G (hT : TRc σ t g) {l : Int} (hl : 0 ≤ l ∧ l < g 13) : ltT σ t l (ga σ (t + 3) l) = ltG g l := by
  obtain ⟨⟨e0, e1, e2⟩, hl1, -⟩ := hT
  obtain ⟨a1, a2, a3⟩ := hl1 l hl.1 hl.2
  unfold ltT ltG
  rw [a1, a2, a3, e2]
theorem tkT_G (hT : TRc σ t g) {l o : Int} (hl : 0 ≤ l ∧ l < g 13) (ho : 0 ≤ o ∧ o < g 28) : tkT σ t o l = tkG g o l := by
  unfold tkT tkG
  rw [ltT_G hT hl]
  obtain ⟨-, -, ho1, -⟩ := hT
  obtain ⟨a1, a2⟩ := ho1 o ho.1 ho.2
  rw [a1, a2]
theorem tkG_b (hG : GOK g) {l o : Int} (hl : 0 ≤ l ∧ l < g 13) (ho : 0 ≤ o ∧ o < g 28) : (0 ≤ ltG g l ∧ ltG g l ≤ 4008) ∧ 0 ≤ tkG g o l ∧ tkG g o l ≤ 4013 := by
  obtain ⟨g1, g2, g3, g4, g5, -⟩ := hG
  obtain ⟨a1, a2, a3⟩ := g4 l hl.1 hl.2
  obtain ⟨b1, b2⟩ := g5 o ho.1 ho.2
  have h1 : 0 ≤ ltG g l ∧ ltG g l ≤ 4008 := ltI_b (u := g (21 + l)) (by omega) (by omega)
  exact ⟨h1, tkI_b h1 b2⟩
theorem TRc_say (hT : TRc σ t g) (hG : GOK g) {l o : Int} (hl : 0 ≤ l ∧ l < g 13) (ho : 0 ≤ o ∧ o < g 28) : TRc (sayT σ t l o) t (rSay g l o) := by
  have hT' := hT
  have hG' := hG
  have et := tkT_G hT hl ho
  have bt := (tkG_b hG hl ho).2
  obtain ⟨g1, g2, g3, g4, g5, -⟩ := hG
  obtain ⟨⟨e0, e1, e2⟩, hl1, ho1, -⟩ := hT
  obtain ⟨x1, x2, x3⟩ := hl1 l hl.1 hl.2
  obtain ⟨x4, x5⟩ := ho1 o ho.1 ho.2
  obtain ⟨y1, y2, y3⟩ := g4 l hl.1 hl.2
  obtain ⟨y4, y5⟩ := g5 o ho.1 ho.2
  have bk := kn1_b y3
  have bh := heI_b (m := tkG g o l) y5 bt.1
  unfold sayT
  rw [et, x3, x5]
  refine TRc_rest hT' hG' (fun a b h1 h2 => by rw [gg_ua_ne _ _ _ _ _ _ (by omega), gg_ua_ne _ _ _ _ _ _ (by omega)]) (fun i h1 h2 => by unfold rSay; rw [if_neg (by omega), if_neg (by omega)]) (by unfold rSay; rw [if_neg (by omega), if_neg (by omega)]) (by unfold rSay; rw [if_neg (by omega), if_neg (by omega)]) ?_ (fun j h1 h2 => ?_) (fun j h1 h2 => ?_)
  · unfold rSay
    repeat rw [if_neg (by omega)]
    refine ⟨?_, ?_, ?_⟩ <;> rw [gg_ua_ne _ _ _ _ _ _ (by omega), gg_ua_ne _ _ _ _ _ _ (by omega)] <;> assumption
  · obtain ⟨z1, z2, z3⟩ := hl1 j h1 h2
    refine ⟨?_, ?_, ?_⟩
    · unfold rSay
      rw [ga_ua_ne _ _ _ _ _ _ (by omega), ga_ua_ne _ _ _ _ _ _ (by omega), if_neg (by omega), if_neg (by omega), z1]
    · unfold rSay
      rw [ga_ua_ne _ _ _ _ _ _ (by omega), ga_ua_ne _ _ _ _ _ _ (by omega), if_neg (by omega), if_neg (by omega), z2]
    · unfold rSay
      by_cases e : j = l
      · subst e
        rw [ga_ua_eq, if_pos rfl, wr_id ⟨by omega, by omega⟩]
      · rw [ga_ua_ni _ _ _ _ _ hl.1 h1 e, ga_ua_ne _ _ _ _ _ _ (by omega), if_neg (by omega), if_neg (by omega), z3]
  · obtain ⟨z1, z2⟩ := ho1 j h1 h2
    refine ⟨?_, ?_⟩
    · unfold rSay
      rw [ga_ua_ne _ _ _ _ _ _ (by omega), ga_ua_ne _ _ _ _ _ _ (by omega), if_neg (by omega), if_neg (by omega), z1]
    · unfold rSay
      rw [ga_ua_ne _ _ _ _ _ _ (by omega), if_neg (by omega)]
      by_cases e : j = o
      · subst e
        rw [ga_ua_eq, if_pos rfl, wr_id ⟨by omega, by omega⟩]
      · rw [ga_ua_ni _ _ _ _ _ ho.1 h1 e, if_neg (by omega), z2]
theorem TRc_forget (hT : TRc σ t g) (hG : GOK g) {l : Int} (hl : 0 ≤ l ∧ l < g 13) : TRc (ua σ (t + 3) l 0) t (r0 g (6 + l)) := by
  have hT' := hT
  have hG' := hG
  obtain ⟨g1, g2, g3, g4, g5, -⟩ := hG
  obtain ⟨⟨e0, e1, e2⟩, hl1, ho1, -⟩ := hT
  refine TRc_rest hT' hG' (fun a b h1 h2 => by rw [gg_ua_ne _ _ _ _ _ _ (by omega)]) (fun i h1 h2 => by unfold r0; rw [if_neg (by omega)]) (by unfold r0; rw [if_neg (by omega)]) (by unfold r0; rw [if_neg (by omega)]) ?_ (fun j h1 h2 => ?_) (fun j h1 h2 => ?_)
  · unfold r0
    repeat rw [if_neg (by omega)]
    refine ⟨?_, ?_, ?_⟩ <;> rw [gg_ua_ne _ _ _ _ _ _ (by omega)] <;> assumption
  · obtain ⟨z1, z2, z3⟩ := hl1 j h1 h2
    refine ⟨?_, ?_, ?_⟩
    · unfold r0
      rw [ga_ua_ne _ _ _ _ _ _ (by omega), if_neg (by omega), z1]
    · unfold r0
      rw [ga_ua_ne _ _ _ _ _ _ (by omega), if_neg (by omega), z2]
    · unfold r0
      by_cases e : j = l
      · subst e
        rw [ga_ua_eq, if_pos rfl]
        rfl
      · rw [ga_ua_ni _ _ _ _ _ hl.1 h1 e, if_neg (by omega), z3]
  · obtain ⟨z1, z2⟩ := ho1 j h1 h2
    unfold r0
    rw [ga_ua_ne _ _ _ _ _ _ (by omega), ga_ua_ne _ _ _ _ _ _ (by omega), if_neg (by omega), if_neg (by omega)]
    exact ⟨z1, z2⟩
theorem TRc_day (hT : TRc σ t g) (hG : GOK g) : TRc (dayT σ t) t (rDay g) := by
  have hT' := hT
  have hG' := hG
  obtain ⟨g1, g2, g3, g4, g5, -⟩ := hG
  obtain ⟨⟨e0, e1, e2⟩, hl1, ho1, -⟩ := hT
  unfold dayT
  refine TRc_rest hT' hG' (fun a b h1 h2 => by rw [gg_ug_ne _ _ _ _ _ _ (by omega), gg_mR, if_neg (by omega)]) (fun i h1 h2 => by unfold rDay; rw [if_neg (by omega), if_neg (by omega)]) (by unfold rDay; rw [if_neg (by omega), if_neg (by omega)]) (by unfold rDay; rw [if_neg (by omega), if_neg (by omega)]) ?_ (fun j h1 h2 => ?_) (fun j h1 h2 => ?_)
  · unfold rDay
    refine ⟨?_, ?_, ?_⟩
    · rw [gg_ug_ne _ _ _ _ _ _ (by omega), gg_mR, if_neg (by omega), if_neg (by omega), if_neg (by omega), e0]
    · rw [gg_ug_ne _ _ _ _ _ _ (by omega), gg_mR, if_neg (by omega), if_neg (by omega), if_neg (by omega), e1]
    · rw [gg_ug_eq, if_neg (by omega), if_pos rfl, e2, wr_id ⟨by omega, by omega⟩]
  · obtain ⟨z1, z2, z3⟩ := hl1 j h1 h2
    refine ⟨?_, ?_, ?_⟩
    · unfold rDay
      rw [ga_ug_ne _ _ _ _ _ _ (by omega), ga_mR_ne _ (by omega), if_neg (by omega), if_neg (by omega), z1]
    · unfold rDay
      rw [ga_ug_ne _ _ _ _ _ _ (by omega), ga_mR_ne _ (by omega), if_neg (by omega), if_neg (by omega), z2]
    · unfold rDay
      rw [ga_ug_ne _ _ _ _ _ _ (by omega), ga_mR_ne _ (by omega), if_neg (by omega), if_neg (by omega), z3]
  · obtain ⟨z1, z2⟩ := ho1 j h1 h2
    obtain ⟨y4, y5⟩ := g5 j h1 h2
    have bc := coI_b (m := 1) y5 (by omega)
    refine ⟨?_, ?_⟩
    · unfold rDay
      rw [ga_ug_ne _ _ _ _ _ _ (by omega), ga_mR_ne _ (by omega), if_neg (by omega), if_neg (by omega), z1]
    · unfold rDay
      rw [ga_ug_ne _ _ _ _ _ _ (by omega), ga_mR _ _ _ _ _ _ h1, if_pos rfl, if_pos ⟨by omega, by omega⟩, if_pos ⟨by omega, by omega⟩]
      have e : (((j.toNat - 0 : Nat)) : Int) = j := by omega
      rw [e, z2, wr_id ⟨by omega, by omega⟩]
theorem TRc_lie (hT : TRc σ t g) (hG : GOK g) {kd u : Int} (h7 : g 13 < 7) (z116 : g 116 = 0) (hk : InR kd) (hu : InR u) : TRc (ug (ua (ua (ua σ (t + 1) (gg σ t 0) kd) (t + 2) (gg σ t 0) u) (t + 3) (gg σ t 0) 0) t 0 (gg σ t 0 + 1)) t (rLie g kd u) := by
  have hT' := hT
  have hG' := hG
  obtain ⟨g1, g2, g3, g4, g5, -⟩ := hG
  obtain ⟨⟨e0, e1, e2⟩, hl1, ho1, -⟩ := hT
  have d13 : rLie g kd u 13 = g 13 + 1 := by unfold rLie; rw [if_neg (by omega), if_neg (by omega), if_neg (by omega), if_pos rfl]
  have dn : ∀ i : Int, i ≠ 14 + g 13 → i ≠ 21 + g 13 → i ≠ 6 + g 13 → i ≠ 13 → rLie g kd u i = g i := fun i h1 h2 h3 h4 => by unfold rLie; rw [if_neg h1, if_neg h2, if_neg h3, if_neg h4]
  have d14 : rLie g kd u (14 + g 13) = kd := by unfold rLie; rw [if_pos rfl]
  have d21 : rLie g kd u (21 + g 13) = u := by unfold rLie; rw [if_neg (by omega), if_pos rfl]
  have d6 : rLie g kd u (6 + g 13) = 0 := by unfold rLie; rw [if_neg (by omega), if_neg (by omega), if_pos rfl]
  rw [e0]
  refine TRc_rest0 hT' hG' (fun a b h1 h2 => by rw [gg_ug_ne _ _ _ _ _ _ (by omega), gg_ua_ne _ _ _ _ _ _ (by omega), gg_ua_ne _ _ _ _ _ _ (by omega), gg_ua_ne _ _ _ _ _ _ (by omega)]) (fun i h1 h2 => dn i (by omega) (by omega) (by omega) (by omega)) (dn _ (by omega) (by omega) (by omega) (by omega)) z116 ?_ (fun j h1 h2 => ?_) (fun j h1 h2 => ?_)
  · refine ⟨?_, ?_, ?_⟩
    · rw [gg_ug_eq, d13, wr_id ⟨by omega, by omega⟩]
    · rw [gg_ug_ne _ _ _ _ _ _ (by omega), gg_ua_ne _ _ _ _ _ _ (by omega), gg_ua_ne _ _ _ _ _ _ (by omega), gg_ua_ne _ _ _ _ _ _ (by omega), dn _ (by omega) (by omega) (by omega) (by omega), e1]
    · rw [gg_ug_ne _ _ _ _ _ _ (by omega), gg_ua_ne _ _ _ _ _ _ (by omega), gg_ua_ne _ _ _ _ _ _ (by omega), gg_ua_ne _ _ _ _ _ _ (by omega), dn _ (by omega) (by omega) (by omega) (by omega), e2]
  · rw [d13] at h2
    rw [ga_ug_ne _ _ _ _ _ _ (by omega), ga_ug_ne _ _ _ _ _ _ (by omega), ga_ug_ne _ _ _ _ _ _ (by omega), ga_ua_ne _ _ (t + 1) _ _ _ (by omega), ga_ua_ne _ _ (t + 1) _ _ _ (by omega), ga_ua_ne _ _ (t + 2) _ _ _ (by omega)]
    by_cases e : j = g 13
    · subst e
      rw [ga_ua_eq, ga_ua_eq, ga_ua_eq, d14, d21, d6, wr_id hk, wr_id hu]
      exact ⟨rfl, rfl, rfl⟩
    · obtain ⟨z1, z2, z3⟩ := hl1 j h1 (by omega)
      rw [ga_ua_ni _ _ _ _ _ g1.1 h1 e, ga_ua_ni _ _ _ _ _ g1.1 h1 e, ga_ua_ni _ _ _ _ _ g1.1 h1 e, ga_ua_ne _ _ (t + 2) _ _ _ (by omega), ga_ua_ne _ _ (t + 3) _ _ _ (by omega), ga_ua_ne _ _ (t + 3) _ _ _ (by omega), dn _ (by omega) (by omega) (by omega) (by omega), dn _ (by omega) (by omega) (by omega) (by omega), dn _ (by omega) (by omega) (by omega) (by omega)]
      exact ⟨z1, z2, z3⟩
  · have d28 := dn 28 (by omega) (by omega) (by omega) (by omega)
    obtain ⟨z1, z2⟩ := ho1 j h1 (by omega)
    rw [ga_ug_ne _ _ _ _ _ _ (by omega), ga_ua_ne _ _ _ _ _ _ (by omega), ga_ua_ne _ _ _ _ _ _ (by omega), ga_ua_ne _ _ _ _ _ _ (by omega), ga_ug_ne _ _ _ _ _ _ (by omega), ga_ua_ne _ _ _ _ _ _ (by omega), ga_ua_ne _ _ _ _ _ _ (by omega), ga_ua_ne _ _ _ _ _ _ (by omega), dn _ (by omega) (by omega) (by omega) (by omega), dn _ (by omega) (by omega) (by omega) (by omega)]
    exact ⟨z1, z2⟩
theorem TRc_oven (hT : TRc σ t g) (hG : GOK g) {kd : Int} (h5 : g 28 < 5) (z116 : g 116 = 0) (hk : InR kd) : TRc (ug (ua (ua σ (t + 4) (gg σ t 1) kd) (t + 5) (gg σ t 1) 0) t 1 (gg σ t 1 + 1)) t (rOven g kd) := by
  have hT' := hT
  have hG' := hG
  obtain ⟨g1, g2, g3, g4, g5, -⟩ := hG
  obtain ⟨⟨e0, e1, e2⟩, hl1, ho1, -⟩ := hT
  have d28 : rOven g kd 28 = g 28 + 1 := by unfold rOven; rw [if_neg (by omega), if_neg (by omega), if_pos rfl]
  have dn : ∀ i : Int, i ≠ 29 + g 28 → i ≠ 1 + g 28 → i ≠ 28 → rOven g kd i = g i := fun i h1 h2 h3 => by unfold rOven; rw [if_neg h1, if_neg h2, if_neg h3]
  have d29 : rOven g kd (29 + g 28) = kd := by unfold rOven; rw [if_pos rfl]
  have d1 : rOven g kd (1 + g 28) = 0 := by unfold rOven; rw [if_neg (by omega), if_pos rfl]
  rw [e1]
  refine TRc_rest0 hT' hG' (fun a b h1 h2 => by rw [gg_ug_ne _ _ _ _ _ _ (by omega), gg_ua_ne _ _ _ _ _ _ (by omega), gg_ua_ne _ _ _ _ _ _ (by omega)]) (fun i h1 h2 => dn i (by omega) (by omega) (by omega)) (dn _ (by omega) (by omega) (by omega)) z116 ?_ (fun j h1 h2 => ?_) (fun j h1 h2 => ?_)
  · refine ⟨?_, ?_, ?_⟩
    · rw [gg_ug_ne _ _ _ _ _ _ (by omega), gg_ua_ne _ _ _ _ _ _ (by omega), gg_ua_ne _ _ _ _ _ _ (by omega), dn _ (by omega) (by omega) (by omega), e0]
    · rw [gg_ug_eq, d28, wr_id ⟨by omega, by omega⟩]
    · rw [gg_ug_ne _ _ _ _ _ _ (by omega), gg_ua_ne _ _ _ _ _ _ (by omega), gg_ua_ne _ _ _ _ _ _ (by omega), dn _ (by omega) (by omega) (by omega), e2]
  · have d13 := dn 13 (by omega) (by omega) (by omega)
    obtain ⟨z1, z2, z3⟩ := hl1 j h1 (by omega)
    refine ⟨?_, ?_, ?_⟩ <;> rw [ga_ug_ne _ _ _ _ _ _ (by omega), ga_ua_ne _ _ _ _ _ _ (by omega), ga_ua_ne _ _ _ _ _ _ (by omega), dn _ (by omega) (by omega) (by omega)] <;> assumption
  · rw [d28] at h2
    rw [ga_ug_ne _ _ _ _ _ _ (by omega), ga_ug_ne _ _ _ _ _ _ (by omega), ga_ua_ne _ _ (t + 4) _ _ _ (by omega)]
    by_cases e : j = g 28
    · subst e
      rw [ga_ua_eq, ga_ua_eq, d29, d1, wr_id hk]
      exact ⟨rfl, rfl⟩
    · obtain ⟨z1, z2⟩ := ho1 j h1 (by omega)
      rw [ga_ua_ni _ _ _ _ _ g2.1 h1 e, ga_ua_ni _ _ _ _ _ g2.1 h1 e, ga_ua_ne _ _ (t + 5) _ _ _ (by omega), dn _ (by omega) (by omega) (by omega), dn _ (by omega) (by omega) (by omega)]
      exact ⟨z1, z2⟩
theorem TRc_wipe (h0 : ∀ i : Int, 0 ≤ i → i < 221 → g i = 0) : TRc (wipeT σ t) t g := by
  have z13 := h0 13 (by omega) (by omega)
  have z28 := h0 28 (by omega) (by omega)
  have z0 := h0 0 (by omega) (by omega)
  have z34 := h0 34 (by omega) (by omega)
  have z60 := h0 60 (by omega) (by omega)
  have z91 := h0 91 (by omega) (by omega)
  have z116 := h0 116 (by omega) (by omega)
  have w0 : wr 0 = 0 := rfl
  unfold wipeT
  refine ⟨⟨?_, ?_, ?_⟩, fun l a b => by omega, fun o a b => by omega, ⟨?_, fun i a b => by omega⟩, ⟨?_, fun i a b => by omega⟩, ⟨?_, fun i a b => by omega⟩, ⟨?_, fun p a b => by omega⟩⟩
  · rw [z13]; simp (disch := omega) only [gg_ug_ne, gg_ug_eq, w0]
  · rw [z28]; simp (disch := omega) only [gg_ug_ne, gg_ug_eq, w0]
  · rw [z0]; simp (disch := omega) only [gg_ug_ne, gg_ug_eq, w0]
  · rw [z34]; simp (disch := omega) only [gg_ug_ne, gg_ug_eq, w0]
  · rw [z60]; simp (disch := omega) only [gg_ug_ne, gg_ug_eq, w0]
  · rw [z91]; simp (disch := omega) only [gg_ug_ne, gg_ug_eq, w0]
  · rw [z116]; simp (disch := omega) only [gg_ug_ne, gg_ug_eq, w0]
end ROWS
