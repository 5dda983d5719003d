/-! the pure side, 2: what the class's and the model's numbers have to do with each other -/
/-- a sea of the class and one of the model are the same sea -/
def SeaAt (w h nw : Nat) (wide high wells : Int32) (kinds wp ww : Nat → Int32) (mouth weight reach bend : Int32) (s : Nat → Int32) : Prop :=
  1 ≤ w ∧ w ≤ 12 ∧ 1 ≤ h ∧ h ≤ 10 ∧ nw ≤ 12 ∧ wide = nI w ∧ high = nI h ∧ wells = nI nw ∧ s 0 = nI w ∧ s 1 = nI h ∧ s 2 = mouth ∧ s 3 = weight ∧ s 4 = reach ∧ s 5 = bend ∧ s 6 = nI nw ∧
    (∃ a : Nat, a ≤ 9 ∧ mouth = nI a) ∧ (∃ a : Nat, a ≤ 2 ∧ weight = nI a) ∧ (∃ a : Nat, a ≤ 20 ∧ reach = nI a) ∧ (-50 ≤ bend.toInt ∧ bend.toInt ≤ 50) ∧
    (∀ y x : Nat, y < h → x < w → (∃ a : Nat, a ≤ 7 ∧ kinds (12 * y + x) = nI a) ∧ s (7 + (w * y + x)) = kinds (12 * y + x)) ∧
    (∀ y x : Nat, y < 10 → x < 12 → ¬ (y < h ∧ x < w) → kinds (12 * y + x) = 8) ∧
    (∀ k : Nat, k < nw → ∃ y x : Nat, y < h ∧ x < w ∧ wp k = nI (12 * y + x) ∧ s (127 + 2 * k) = nI (w * y + x) ∧ kinds (12 * y + x) = 0 ∧ ww k = s (127 + 2 * k + 1) ∧ ∃ a : Nat, a ≤ 99 ∧ ww k = nI a)
def SeaRel (wide high wells : Int32) (kinds wp ww : Nat → Int32) (mouth weight reach bend : Int32) (s : Nat → Int32) : Prop :=
  ∃ w h nw : Nat, SeaAt w h nw wide high wells kinds wp ww mouth weight reach bend s
/-- all that lasts from call to call -/
def Rel (length : Int32) (signs : Nat → Int32) (wide high wells : Int32) (kinds wp ww : Nat → Int32) (mouth weight reach bend : Int32) (kwide khigh kwells : Int32) (kkinds kwp kww : Nat → Int32) (kmouth kweight kreach kbend : Int32) (hasImage rowLength : Int32) (row refusals : Nat → Int32) (isImage taped rowed : Int32) (tape s image mrow mrefusals : Nat → Int32) : Prop :=
  taped = length ∧ (∃ t : Nat, t ≤ 129 ∧ length = nI t) ∧ (∀ j : Nat, j < 129 → tape j = signs j ∧ ∃ a : Nat, a < 256 ∧ signs j = nI a) ∧
  SeaRel wide high wells kinds wp ww mouth weight reach bend s ∧
  isImage = hasImage ∧ (¬ hasImage = 0 → SeaRel kwide khigh kwells kkinds kwp kww kmouth kweight kreach kbend image) ∧
  rowed = rowLength ∧ (∃ t : Nat, t ≤ 120 ∧ rowLength = nI t) ∧ (∀ j : Nat, j < 120 → mrow j = row j) ∧ (∀ j : Nat, j < 7 → mrefusals j = refusals j)
