def RBo : String := "BoxedPages$Box"
def RDi : String := "BoxedPages$Disk"
def RPa : String := "BoxedPages$Page"
def RSe : String := "BoxedPages$Search"
def RTr : String := "BoxedPages$Tree"
def RFa : String := "BoxedPages"
def RMo : String := "BoxedPagesModel"
def RIn : String := "java/lang/Integer"
def RMa : String := "java/lang/Math"
def RSy : String := "java/lang/System"
def RLa : String := "BoxedPagesLaw"
def ROb : String := "java/lang/Object"
def TBo : u_T := fun k => match k with
  | 0 => ("BoxedPages$Box", "x1", "I", false)
  | 1 => ("BoxedPages$Box", "y1", "I", false)
  | 2 => ("BoxedPages$Box", "x2", "I", false)
  | 3 => ("BoxedPages$Box", "y2", "I", false)
  | _ => ("BoxedPages$Box", "below", "I", false)
def tBo : Nat → FieldType := fun k => match k with
  | 0 => .int
  | 1 => .int
  | 2 => .int
  | 3 => .int
  | _ => .int
theorem nmBo : ∀ a, a < 5 → ∀ b, b < 5 → a ≠ b → (TBo a).2.1 ≠ (TBo b).2.1 := by decide +kernel
theorem tyBo : ∀ k, k < 5 → parseFieldDescriptor (TBo k).2.2.1 = some (tBo k) := by decide +kernel
theorem usBo : ∀ w ∈ u_ws RBo TBo 5, w ∈ tbl := fun w h => List.mem_filter.mpr ⟨(by decide +kernel : ∀ w ∈ u_ws RBo TBo 5, w ∈ lw_tbl) w h, (by decide +kernel : ∀ w ∈ u_ws RBo TBo 5, goodWord w = true) w h⟩
def TDi : u_T := fun k => match k with
  | 0 => ("BoxedPages$Disk", "places", "[[I", true)
  | 1 => ("BoxedPages$Disk", "log", "[[I", true)
  | 2 => ("BoxedPages$Disk", "loggedPage", "[I", true)
  | 3 => ("BoxedPages$Disk", "logged", "I", false)
  | _ => ("BoxedPages$Disk", "marked", "Z", false)
def tDi : Nat → FieldType := fun k => match k with
  | 0 => .array (.array .int)
  | 1 => .array (.array .int)
  | 2 => .array .int
  | 3 => .int
  | _ => .boolean
theorem nmDi : ∀ a, a < 5 → ∀ b, b < 5 → a ≠ b → (TDi a).2.1 ≠ (TDi b).2.1 := by decide +kernel
theorem tyDi : ∀ k, k < 5 → parseFieldDescriptor (TDi k).2.2.1 = some (tDi k) := by decide +kernel
theorem usDi : ∀ w ∈ u_ws RDi TDi 5, w ∈ tbl := fun w h => List.mem_filter.mpr ⟨(by decide +kernel : ∀ w ∈ u_ws RDi TDi 5, w ∈ lw_tbl) w h, (by decide +kernel : ∀ w ∈ u_ws RDi TDi 5, goodWord w = true) w h⟩
def TPa : u_T := fun k => match k with
  | 0 => ("BoxedPages$Page", "level", "I", false)
  | 1 => ("BoxedPages$Page", "used", "I", false)
  | 2 => ("BoxedPages$Page", "changed", "Z", false)
  | _ => ("BoxedPages$Page", "boxes", "[LBoxedPages$Box;", true)
def tPa : Nat → FieldType := fun k => match k with
  | 0 => .int
  | 1 => .int
  | 2 => .boolean
  | _ => .array (.object "BoxedPages$Box")
theorem nmPa : ∀ a, a < 4 → ∀ b, b < 4 → a ≠ b → (TPa a).2.1 ≠ (TPa b).2.1 := by decide +kernel
theorem tyPa : ∀ k, k < 4 → parseFieldDescriptor (TPa k).2.2.1 = some (tPa k) := by decide +kernel
theorem usPa : ∀ w ∈ u_ws RPa TPa 4, w ∈ tbl := fun w h => List.mem_filter.mpr ⟨(by decide +kernel : ∀ w ∈ u_ws RPa TPa 4, w ∈ lw_tbl) w h, (by decide +kernel : ∀ w ∈ u_ws RPa TPa 4, goodWord w = true) w h⟩
def TSe : u_T := fun k => match k with
  | 0 => ("BoxedPages$Search", "found", "[LBoxedPages$Box;", true)
  | 1 => ("BoxedPages$Search", "hits", "I", false)
  | 2 => ("BoxedPages$Search", "closest", "LBoxedPages$Box;", true)
  | 3 => ("BoxedPages$Search", "least", "J", false)
  | 4 => ("BoxedPages$Search", "waiting", "[I", true)
  | 5 => ("BoxedPages$Search", "squares", "[J", true)
  | 6 => ("BoxedPages$Search", "queued", "I", false)
  | 7 => ("BoxedPages$Search", "looked", "[I", true)
  | 8 => ("BoxedPages$Search", "looks", "I", false)
  | _ => ("BoxedPages$Search", "frame", "LBoxedPages$Box;", true)
def tSe : Nat → FieldType := fun k => match k with
  | 0 => .array (.object "BoxedPages$Box")
  | 1 => .int
  | 2 => .object "BoxedPages$Box"
  | 3 => .long
  | 4 => .array .int
  | 5 => .array .long
  | 6 => .int
  | 7 => .array .int
  | 8 => .int
  | _ => .object "BoxedPages$Box"
theorem nmSe : ∀ a, a < 10 → ∀ b, b < 10 → a ≠ b → (TSe a).2.1 ≠ (TSe b).2.1 := by decide +kernel
theorem tySe : ∀ k, k < 10 → parseFieldDescriptor (TSe k).2.2.1 = some (tSe k) := by decide +kernel
theorem usSe : ∀ w ∈ u_ws RSe TSe 10, w ∈ tbl := fun w h => List.mem_filter.mpr ⟨(by decide +kernel : ∀ w ∈ u_ws RSe TSe 10, w ∈ lw_tbl) w h, (by decide +kernel : ∀ w ∈ u_ws RSe TSe 10, goodWord w = true) w h⟩
def TTr : u_T := fun k => match k with
  | 0 => ("BoxedPages$Tree", "root", "I", false)
  | 1 => ("BoxedPages$Tree", "entries", "I", false)
  | 2 => ("BoxedPages$Tree", "headerChanged", "Z", false)
  | 3 => ("BoxedPages$Tree", "pages", "[LBoxedPages$Page;", true)
  | 4 => ("BoxedPages$Tree", "trail", "[I", true)
  | 5 => ("BoxedPages$Tree", "turns", "[I", true)
  | 6 => ("BoxedPages$Tree", "frame", "LBoxedPages$Box;", true)
  | _ => ("BoxedPages$Tree", "rest", "LBoxedPages$Box;", true)
def tTr : Nat → FieldType := fun k => match k with
  | 0 => .int
  | 1 => .int
  | 2 => .boolean
  | 3 => .array (.object "BoxedPages$Page")
  | 4 => .array .int
  | 5 => .array .int
  | 6 => .object "BoxedPages$Box"
  | _ => .object "BoxedPages$Box"
theorem nmTr : ∀ a, a < 8 → ∀ b, b < 8 → a ≠ b → (TTr a).2.1 ≠ (TTr b).2.1 := by decide +kernel
theorem tyTr : ∀ k, k < 8 → parseFieldDescriptor (TTr k).2.2.1 = some (tTr k) := by decide +kernel
theorem usTr : ∀ w ∈ u_ws RTr TTr 8, w ∈ tbl := fun w h => List.mem_filter.mpr ⟨(by decide +kernel : ∀ w ∈ u_ws RTr TTr 8, w ∈ lw_tbl) w h, (by decide +kernel : ∀ w ∈ u_ws RTr TTr 8, goodWord w = true) w h⟩
def TFa : u_T := fun k => match k with
  | 0 => ("BoxedPages", "disk", "LBoxedPages$Disk;", true)
  | 1 => ("BoxedPages", "tree", "LBoxedPages$Tree;", true)
  | 2 => ("BoxedPages", "search", "LBoxedPages$Search;", true)
  | 3 => ("BoxedPages", "asked", "LBoxedPages$Box;", true)
  | 4 => ("BoxedPages", "running", "Z", false)
  | 5 => ("BoxedPages", "thrifty", "Z", false)
  | _ => ("BoxedPages", "nextCut", "I", false)
def tFa : Nat → FieldType := fun k => match k with
  | 0 => .object "BoxedPages$Disk"
  | 1 => .object "BoxedPages$Tree"
  | 2 => .object "BoxedPages$Search"
  | 3 => .object "BoxedPages$Box"
  | 4 => .boolean
  | 5 => .boolean
  | _ => .int
theorem nmFa : ∀ a, a < 7 → ∀ b, b < 7 → a ≠ b → (TFa a).2.1 ≠ (TFa b).2.1 := by decide +kernel
theorem tyFa : ∀ k, k < 7 → parseFieldDescriptor (TFa k).2.2.1 = some (tFa k) := by decide +kernel
theorem usFa : ∀ w ∈ u_ws RFa TFa 7, w ∈ tbl := fun w h => List.mem_filter.mpr ⟨(by decide +kernel : ∀ w ∈ u_ws RFa TFa 7, w ∈ lw_tbl) w h, (by decide +kernel : ∀ w ∈ u_ws RFa TFa 7, goodWord w = true) w h⟩
def TMo : u_T := fun k => match k with
  | 0 => ("BoxedPagesModel", "isUp", "Z", false)
  | 1 => ("BoxedPagesModel", "cut", "I", false)
  | 2 => ("BoxedPagesModel", "many", "I", false)
  | _ => ("BoxedPagesModel", "entry", "[I", true)
def tMo : Nat → FieldType := fun k => match k with
  | 0 => .boolean
  | 1 => .int
  | 2 => .int
  | _ => .array .int
theorem nmMo : ∀ a, a < 4 → ∀ b, b < 4 → a ≠ b → (TMo a).2.1 ≠ (TMo b).2.1 := by decide +kernel
theorem tyMo : ∀ k, k < 4 → parseFieldDescriptor (TMo k).2.2.1 = some (tMo k) := by decide +kernel
theorem usMo : ∀ w ∈ u_ws RMo TMo 4, w ∈ tbl := fun w h => List.mem_filter.mpr ⟨(by decide +kernel : ∀ w ∈ u_ws RMo TMo 4, w ∈ lw_tbl) w h, (by decide +kernel : ∀ w ∈ u_ws RMo TMo 4, goodWord w = true) w h⟩
abbrev cls : List vw_C := [(RBo, TBo, 5), (RDi, TDi, 5), (RPa, TPa, 4), (RSe, TSe, 10), (RTr, TTr, 8), (RFa, TFa, 7), (RMo, TMo, 4)]
theorem tbok : TBok tbl := fun w h => good_of_word (tb_good w h)
theorem klBo {Y : Yt} {z : Cond} (h : yC Y = cls) : Kl Y (z :: tbl) 0 RBo TBo 5 tBo := ⟨by rw [h]; rfl, fun w hw => List.mem_cons_of_mem _ (usBo w hw), tyBo, nmBo⟩
theorem klDi {Y : Yt} {z : Cond} (h : yC Y = cls) : Kl Y (z :: tbl) 1 RDi TDi 5 tDi := ⟨by rw [h]; rfl, fun w hw => List.mem_cons_of_mem _ (usDi w hw), tyDi, nmDi⟩
theorem klPa {Y : Yt} {z : Cond} (h : yC Y = cls) : Kl Y (z :: tbl) 2 RPa TPa 4 tPa := ⟨by rw [h]; rfl, fun w hw => List.mem_cons_of_mem _ (usPa w hw), tyPa, nmPa⟩
theorem klSe {Y : Yt} {z : Cond} (h : yC Y = cls) : Kl Y (z :: tbl) 3 RSe TSe 10 tSe := ⟨by rw [h]; rfl, fun w hw => List.mem_cons_of_mem _ (usSe w hw), tySe, nmSe⟩
theorem klTr {Y : Yt} {z : Cond} (h : yC Y = cls) : Kl Y (z :: tbl) 4 RTr TTr 8 tTr := ⟨by rw [h]; rfl, fun w hw => List.mem_cons_of_mem _ (usTr w hw), tyTr, nmTr⟩
theorem klFa {Y : Yt} {z : Cond} (h : yC Y = cls) : Kl Y (z :: tbl) 5 RFa TFa 7 tFa := ⟨by rw [h]; rfl, fun w hw => List.mem_cons_of_mem _ (usFa w hw), tyFa, nmFa⟩
theorem klMo {Y : Yt} {z : Cond} (h : yC Y = cls) : Kl Y (z :: tbl) 6 RMo TMo 4 tMo := ⟨by rw [h]; rfl, fun w hw => List.mem_cons_of_mem _ (usMo w hw), tyMo, nmMo⟩
