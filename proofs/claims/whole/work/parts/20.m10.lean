theorem mw863 : Cond.code ⟨"ZonedFabricModel", "<init>", "(III)V"⟩ prog_14_method_1_code 5 none ∈ xTs := xTs_in (tk5 (List.mem_of_getElem? (i := 199) rfl)) rfl
theorem mw864 : Cond.initialized "ZonedFabricModel" ∈ xTs := xTs_in (tk1 (List.mem_of_getElem? (i := 9) (by decide +kernel))) rfl
theorem mw865 : Cond.fieldLink "ZonedFabricModel" 7 "ZonedFabricModel" "counts" "[I" ∈ xTs := xTs_in (tk5 (List.mem_of_getElem? (i := 206) (by decide +kernel))) rfl
theorem mw866 : Cond.fieldLink "ZonedFabricModel" 13 "ZonedFabricModel" "books" "[I" ∈ xTs := xTs_in (tk5 (List.mem_of_getElem? (i := 207) (by decide +kernel))) rfl
theorem mw867 : Cond.fieldLink "ZonedFabricModel" 17 "ZonedFabricModel" "bytes" "[B" ∈ xTs := xTs_in (tk5 (List.mem_of_getElem? (i := 208) (by decide +kernel))) rfl
theorem mw868 : Cond.fieldLink "ZonedFabricModel" 21 "ZonedFabricModel" "size" "[I" ∈ xTs := xTs_in (tk5 (List.mem_of_getElem? (i := 209) (by decide +kernel))) rfl
theorem mw869 : Cond.fieldLink "ZonedFabricModel" 24 "ZonedFabricModel" "free" "[I" ∈ xTs := xTs_in (tk5 (List.mem_of_getElem? (i := 210) (by decide +kernel))) rfl
theorem mw870 : Cond.fieldLink "ZonedFabricModel" 27 "ZonedFabricModel" "ends" "[I" ∈ xTs := xTs_in (tk5 (List.mem_of_getElem? (i := 212) (by decide +kernel))) rfl
theorem mw871 : Cond.fieldLink "ZonedFabricModel" 30 "ZonedFabricModel" "costs" "[I" ∈ xTs := xTs_in (tk5 (List.mem_of_getElem? (i := 213) (by decide +kernel))) rfl
theorem mw872 : Cond.arrayClass .boolean ∈ xTs := xTs_in (tk6 (List.mem_of_getElem? (i := 146) (by decide +kernel))) rfl
theorem mw873 : Cond.fieldLink "ZonedFabricModel" 33 "ZonedFabricModel" "ups" "[Z" ∈ xTs := xTs_in (tk5 (List.mem_of_getElem? (i := 214) (by decide +kernel))) rfl
theorem mw874 : Cond.fieldLink "ZonedFabricModel" 37 "ZonedFabricModel" "wireOf" "[I" ∈ xTs := xTs_in (tk5 (List.mem_of_getElem? (i := 216) (by decide +kernel))) rfl
theorem mw875 : Cond.fieldLink "ZonedFabricModel" 40 "ZonedFabricModel" "onWay" "[I" ∈ xTs := xTs_in (tk5 (List.mem_of_getElem? (i := 217) (by decide +kernel))) rfl
theorem mw876 : Cond.fieldLink "ZonedFabricModel" 43 "ZonedFabricModel" "buffers" "[I" ∈ xTs := xTs_in (tk5 (List.mem_of_getElem? (i := 218) (by decide +kernel))) rfl
theorem mw877 : Cond.fieldLink "ZonedFabricModel" 46 "ZonedFabricModel" "buffered" "[I" ∈ xTs := xTs_in (tk5 (List.mem_of_getElem? (i := 219) (by decide +kernel))) rfl
theorem mw878 : Cond.fieldLink "ZonedFabricModel" 49 "ZonedFabricModel" "queues" "[I" ∈ xTs := xTs_in (tk5 (List.mem_of_getElem? (i := 220) (by decide +kernel))) rfl
theorem mw879 : Cond.fieldLink "ZonedFabricModel" 52 "ZonedFabricModel" "queued" "[I" ∈ xTs := xTs_in (tk5 (List.mem_of_getElem? (i := 221) (by decide +kernel))) rfl
theorem mw880 : Cond.fieldLink "ZonedFabricModel" 55 "ZonedFabricModel" "left" "[I" ∈ xTs := xTs_in (tk5 (List.mem_of_getElem? (i := 222) (by decide +kernel))) rfl
theorem mw881 : Cond.fieldLink "ZonedFabricModel" 58 "ZonedFabricModel" "stays" "[I" ∈ xTs := xTs_in (tk5 (List.mem_of_getElem? (i := 223) (by decide +kernel))) rfl
theorem mw882 : Cond.fieldLink "ZonedFabricModel" 61 "ZonedFabricModel" "sent" "[Z" ∈ xTs := xTs_in (tk5 (List.mem_of_getElem? (i := 224) (by decide +kernel))) rfl
theorem mw883 : Cond.fieldLink "ZonedFabricModel" 64 "ZonedFabricModel" "neighbour" "[I" ∈ xTs := xTs_in (tk5 (List.mem_of_getElem? (i := 225) (by decide +kernel))) rfl
theorem mw884 : Cond.fieldLink "ZonedFabricModel" 67 "ZonedFabricModel" "helloAt" "[I" ∈ xTs := xTs_in (tk5 (List.mem_of_getElem? (i := 226) (by decide +kernel))) rfl
theorem mw885 : Cond.fieldLink "ZonedFabricModel" 70 "ZonedFabricModel" "given" "[I" ∈ xTs := xTs_in (tk5 (List.mem_of_getElem? (i := 227) (by decide +kernel))) rfl
theorem mw886 : Cond.fieldLink "ZonedFabricModel" 73 "ZonedFabricModel" "domains" "[I" ∈ xTs := xTs_in (tk5 (List.mem_of_getElem? (i := 228) (by decide +kernel))) rfl
theorem mw887 : Cond.fieldLink "ZonedFabricModel" 76 "ZonedFabricModel" "kept" "[Z" ∈ xTs := xTs_in (tk5 (List.mem_of_getElem? (i := 229) (by decide +kernel))) rfl
theorem mw888 : Cond.fieldLink "ZonedFabricModel" 79 "ZonedFabricModel" "keptAt" "[I" ∈ xTs := xTs_in (tk5 (List.mem_of_getElem? (i := 230) (by decide +kernel))) rfl
theorem mw889 : Cond.fieldLink "ZonedFabricModel" 82 "ZonedFabricModel" "told" "[I" ∈ xTs := xTs_in (tk5 (List.mem_of_getElem? (i := 231) (by decide +kernel))) rfl
theorem mw890 : Cond.fieldLink "ZonedFabricModel" 85 "ZonedFabricModel" "toldMany" "[I" ∈ xTs := xTs_in (tk5 (List.mem_of_getElem? (i := 232) (by decide +kernel))) rfl
theorem mw891 : Cond.fieldLink "ZonedFabricModel" 88 "ZonedFabricModel" "fresh" "[I" ∈ xTs := xTs_in (tk5 (List.mem_of_getElem? (i := 233) (by decide +kernel))) rfl
theorem mw892 : Cond.fieldLink "ZonedFabricModel" 91 "ZonedFabricModel" "sums" "[I" ∈ xTs := xTs_in (tk5 (List.mem_of_getElem? (i := 234) (by decide +kernel))) rfl
theorem mw893 : Cond.fieldLink "ZonedFabricModel" 94 "ZonedFabricModel" "isDisc" "[Z" ∈ xTs := xTs_in (tk5 (List.mem_of_getElem? (i := 235) (by decide +kernel))) rfl
theorem mw894 : Cond.fieldLink "ZonedFabricModel" 97 "ZonedFabricModel" "commanded" "[Z" ∈ xTs := xTs_in (tk5 (List.mem_of_getElem? (i := 236) (by decide +kernel))) rfl
theorem mw895 : Cond.fieldLink "ZonedFabricModel" 100 "ZonedFabricModel" "addresses" "[I" ∈ xTs := xTs_in (tk5 (List.mem_of_getElem? (i := 237) (by decide +kernel))) rfl
theorem mw896 : Cond.fieldLink "ZonedFabricModel" 103 "ZonedFabricModel" "flogiAt" "[I" ∈ xTs := xTs_in (tk5 (List.mem_of_getElem? (i := 238) (by decide +kernel))) rfl
theorem mw897 : Cond.fieldLink "ZonedFabricModel" 106 "ZonedFabricModel" "zones" "[I" ∈ xTs := xTs_in (tk5 (List.mem_of_getElem? (i := 239) (by decide +kernel))) rfl
theorem mw898 : Cond.fieldLink "ZonedFabricModel" 109 "ZonedFabricModel" "loginAt" "[I" ∈ xTs := xTs_in (tk6 (List.mem_of_getElem? (i := 1) (by decide +kernel))) rfl
theorem mw899 : Cond.fieldLink "ZonedFabricModel" 112 "ZonedFabricModel" "logged" "[I" ∈ xTs := xTs_in (tk6 (List.mem_of_getElem? (i := 2) (by decide +kernel))) rfl
theorem mw900 : Cond.fieldLink "ZonedFabricModel" 115 "ZonedFabricModel" "loggedMany" "[I" ∈ xTs := xTs_in (tk6 (List.mem_of_getElem? (i := 3) (by decide +kernel))) rfl
theorem mw901 : Cond.fieldLink "ZonedFabricModel" 118 "ZonedFabricModel" "blocks" "[J" ∈ xTs := xTs_in (tk6 (List.mem_of_getElem? (i := 4) (by decide +kernel))) rfl
theorem mw902 : Cond.fieldLink "ZonedFabricModel" 122 "ZonedFabricModel" "lastRx" "[I" ∈ xTs := xTs_in (tk6 (List.mem_of_getElem? (i := 5) (by decide +kernel))) rfl
theorem mw903 : Cond.fieldLink "ZonedFabricModel" 125 "ZonedFabricModel" "open" "[I" ∈ xTs := xTs_in (tk6 (List.mem_of_getElem? (i := 6) (by decide +kernel))) rfl
theorem mw904 : Cond.fieldLink "ZonedFabricModel" 128 "ZonedFabricModel" "openValues" "[J" ∈ xTs := xTs_in (tk6 (List.mem_of_getElem? (i := 7) (by decide +kernel))) rfl
theorem mw905 : Cond.fieldLink "ZonedFabricModel" 131 "ZonedFabricModel" "openMany" "[I" ∈ xTs := xTs_in (tk6 (List.mem_of_getElem? (i := 8) (by decide +kernel))) rfl
theorem mw906 : Cond.fieldLink "ZonedFabricModel" 134 "ZonedFabricModel" "host" "[I" ∈ xTs := xTs_in (tk6 (List.mem_of_getElem? (i := 10) (by decide +kernel))) rfl
theorem mw907 : Cond.fieldLink "ZonedFabricModel" 137 "ZonedFabricModel" "target" "[I" ∈ xTs := xTs_in (tk6 (List.mem_of_getElem? (i := 11) (by decide +kernel))) rfl
theorem mw908 : Cond.fieldLink "ZonedFabricModel" 140 "ZonedFabricModel" "writes" "[Z" ∈ xTs := xTs_in (tk6 (List.mem_of_getElem? (i := 12) (by decide +kernel))) rfl
theorem mw909 : Cond.fieldLink "ZonedFabricModel" 143 "ZonedFabricModel" "unit" "[I" ∈ xTs := xTs_in (tk6 (List.mem_of_getElem? (i := 13) (by decide +kernel))) rfl
theorem mw910 : Cond.fieldLink "ZonedFabricModel" 146 "ZonedFabricModel" "first" "[I" ∈ xTs := xTs_in (tk6 (List.mem_of_getElem? (i := 14) (by decide +kernel))) rfl
theorem mw911 : Cond.fieldLink "ZonedFabricModel" 149 "ZonedFabricModel" "many" "[I" ∈ xTs := xTs_in (tk6 (List.mem_of_getElem? (i := 15) (by decide +kernel))) rfl
theorem mw912 : Cond.fieldLink "ZonedFabricModel" 152 "ZonedFabricModel" "values" "[J" ∈ xTs := xTs_in (tk6 (List.mem_of_getElem? (i := 16) (by decide +kernel))) rfl
theorem mw913 : Cond.fieldLink "ZonedFabricModel" 155 "ZonedFabricModel" "came" "[I" ∈ xTs := xTs_in (tk6 (List.mem_of_getElem? (i := 17) (by decide +kernel))) rfl
theorem mw914 : Cond.fieldLink "ZonedFabricModel" 158 "ZonedFabricModel" "phase" "[I" ∈ xTs := xTs_in (tk6 (List.mem_of_getElem? (i := 18) (by decide +kernel))) rfl
theorem mw915 : Cond.fieldLink "ZonedFabricModel" 161 "ZonedFabricModel" "phaseAt" "[I" ∈ xTs := xTs_in (tk6 (List.mem_of_getElem? (i := 19) (by decide +kernel))) rfl
theorem mw916 : Cond.fieldLink "ZonedFabricModel" 164 "ZonedFabricModel" "began" "[I" ∈ xTs := xTs_in (tk6 (List.mem_of_getElem? (i := 20) (by decide +kernel))) rfl
theorem mw917 : Cond.fieldLink "ZonedFabricModel" 167 "ZonedFabricModel" "ended" "[I" ∈ xTs := xTs_in (tk6 (List.mem_of_getElem? (i := 21) (by decide +kernel))) rfl
theorem mw918 : Cond.fieldLink "ZonedFabricModel" 170 "ZonedFabricModel" "goal" "[I" ∈ xTs := xTs_in (tk6 (List.mem_of_getElem? (i := 22) (by decide +kernel))) rfl
theorem mw919 : Cond.constant "ZonedFabricModel" 16 (144000) ∈ xTs := xTs_in (tk5 (List.mem_of_getElem? (i := 201) (by decide +kernel))) rfl
theorem mw920 : Cond.methodLink "ZonedFabricModel" 1 ⟨"java/lang/Object", "<init>", "()V"⟩ ∈ xTs := xTs_in (tk5 (List.mem_of_getElem? (i := 200) (by decide +kernel))) rfl
theorem mw921 : Cond.fieldLink "ZonedFabricModel" 173 "ZonedFabricModel" "switches" "I" ∈ xTs := xTs_in (tk5 (List.mem_of_getElem? (i := 202) (by decide +kernel))) rfl
theorem mw922 : Cond.fieldLink "ZonedFabricModel" 177 "ZonedFabricModel" "nodes" "I" ∈ xTs := xTs_in (tk5 (List.mem_of_getElem? (i := 203) (by decide +kernel))) rfl
theorem mw923 : Cond.fieldLink "ZonedFabricModel" 180 "ZonedFabricModel" "room" "I" ∈ xTs := xTs_in (tk5 (List.mem_of_getElem? (i := 204) (by decide +kernel))) rfl
theorem mw924 : Cond.fieldLink "ZonedFabricModel" 183 "ZonedFabricModel" "frees" "I" ∈ xTs := xTs_in (tk5 (List.mem_of_getElem? (i := 211) (by decide +kernel))) rfl
/-! ZFModel.init(III)V -/
def ym164 : MethodName := ⟨"ZonedFabricModel", "<init>", "(III)V"⟩
theorem cd164 : xCd ym164 prog_14_method_1_code 5 none 3 := ⟨mw863, mw864, by decide, by decide, by decide +kernel⟩
def b164_502 (a0 : Nat) (si0 : Int32) (sr1 : Option Nat) (M : hM) : Option xRes :=
  Option.bind (p_i M 12 2 sr1 si0) fun M223 =>
  some (.inr (508, [.inr (.inr (some a0)), .inl (0 : Int32)], M223))
def b164_501 (a0 : Nat) (sr0 : Option Nat) (M : hM) : Option xRes :=
  b164_502 a0 (2 : Int32) sr0 M
def b164_483 (a0 : Nat) (v3 : Int32) (si0 : Int32) (sr1 : Option Nat) (M : hM) : Option xRes :=
  Option.bind (p_i M 12 1 sr1 si0) fun M219 =>
  if v3 < (1 : Int32) then
    (b164_501 a0 (some a0) M219)
  else
    (if (4 : Int32) < v3 then
      (b164_501 a0 (some a0) M219)
    else
      (b164_502 a0 v3 (some a0) M219))
def b164_482 (a0 : Nat) (v3 : Int32) (sr0 : Option Nat) (M : hM) : Option xRes :=
  b164_483 a0 v3 (2 : Int32) sr0 M
def b164_463 (a0 : Nat) (v2 : Int32) (v3 : Int32) (si0 : Int32) (sr1 : Option Nat) (M : hM) : Option xRes :=
  Option.bind (p_i M 12 0 sr1 si0) fun M215 =>
  if v2 < (1 : Int32) then
    (b164_482 a0 v3 (some a0) M215)
  else
    (if (8 : Int32) < v2 then
      (b164_482 a0 v3 (some a0) M215)
    else
      (b164_483 a0 v3 v2 (some a0) M215))
def b164_462 (a0 : Nat) (v2 : Int32) (v3 : Int32) (sr0 : Option Nat) (M : hM) : Option xRes :=
  b164_463 a0 v2 v3 (2 : Int32) sr0 M
def b164_0 (a0 : Nat) (v1 : Int32) (v2 : Int32) (v3 : Int32) (M : hM) : Option xRes :=
  Option.bind (n_a M 20 (11 : Int32)) fun M1 =>
  Option.bind (p_r M1 12 4 (some a0) (some (h_sz M))) fun M3 =>
  Option.bind (n_a M3 20 (3 : Int32)) fun M5 =>
  Option.bind (p_r M5 12 5 (some a0) (some (h_sz M3))) fun M7 =>
  Option.bind (n_a M7 21 (144000 : Int32)) fun M9 =>
  Option.bind (p_r M9 12 6 (some a0) (some (h_sz M7))) fun M11 =>
  Option.bind (n_a M11 20 (1800 : Int32)) fun M13 =>
  Option.bind (p_r M13 12 7 (some a0) (some (h_sz M11))) fun M15 =>
  Option.bind (n_a M15 20 (1800 : Int32)) fun M17 =>
  Option.bind (p_r M17 12 8 (some a0) (some (h_sz M15))) fun M19 =>
  Option.bind (n_a M19 20 (32 : Int32)) fun M21 =>
  Option.bind (p_r M21 12 10 (some a0) (some (h_sz M19))) fun M23 =>
  Option.bind (n_a M23 20 (16 : Int32)) fun M25 =>
  Option.bind (p_r M25 12 11 (some a0) (some (h_sz M23))) fun M27 =>
  Option.bind (n_a M27 22 (16 : Int32)) fun M29 =>
  Option.bind (p_r M29 12 12 (some a0) (some (h_sz M27))) fun M31 =>
  Option.bind (n_a M31 20 (48 : Int32)) fun M33 =>
  Option.bind (p_r M33 12 14 (some a0) (some (h_sz M31))) fun M35 =>
  Option.bind (n_a M35 20 (48 : Int32)) fun M37 =>
  Option.bind (p_r M37 12 15 (some a0) (some (h_sz M35))) fun M39 =>
  Option.bind (n_a M39 20 (192 : Int32)) fun M41 =>
  Option.bind (p_r M41 12 16 (some a0) (some (h_sz M39))) fun M43 =>
  Option.bind (n_a M43 20 (48 : Int32)) fun M45 =>
  Option.bind (p_r M45 12 17 (some a0) (some (h_sz M43))) fun M47 =>
  Option.bind (n_a M47 20 (1536 : Int32)) fun M49 =>
  Option.bind (p_r M49 12 18 (some a0) (some (h_sz M47))) fun M51 =>
  Option.bind (n_a M51 20 (48 : Int32)) fun M53 =>
  Option.bind (p_r M53 12 19 (some a0) (some (h_sz M51))) fun M55 =>
  Option.bind (n_a M55 20 (48 : Int32)) fun M57 =>
  Option.bind (p_r M57 12 20 (some a0) (some (h_sz M55))) fun M59 =>
  Option.bind (n_a M59 20 (48 : Int32)) fun M61 =>
  Option.bind (p_r M61 12 21 (some a0) (some (h_sz M59))) fun M63 =>
  Option.bind (n_a M63 22 (48 : Int32)) fun M65 =>
  Option.bind (p_r M65 12 22 (some a0) (some (h_sz M63))) fun M67 =>
  Option.bind (n_a M67 20 (48 : Int32)) fun M69 =>
  Option.bind (p_r M69 12 23 (some a0) (some (h_sz M67))) fun M71 =>
  Option.bind (n_a M71 20 (48 : Int32)) fun M73 =>
  Option.bind (p_r M73 12 24 (some a0) (some (h_sz M71))) fun M75 =>
  Option.bind (n_a M75 20 (48 : Int32)) fun M77 =>
  Option.bind (p_r M77 12 25 (some a0) (some (h_sz M75))) fun M79 =>
  Option.bind (n_a M79 20 (5 : Int32)) fun M81 =>
  Option.bind (p_r M81 12 26 (some a0) (some (h_sz M79))) fun M83 =>
  Option.bind (n_a M83 22 (25 : Int32)) fun M85 =>
  Option.bind (p_r M85 12 27 (some a0) (some (h_sz M83))) fun M87 =>
  Option.bind (n_a M87 20 (25 : Int32)) fun M89 =>
  Option.bind (p_r M89 12 28 (some a0) (some (h_sz M87))) fun M91 =>
  Option.bind (n_a M91 20 (1600 : Int32)) fun M93 =>
  Option.bind (p_r M93 12 29 (some a0) (some (h_sz M91))) fun M95 =>
  Option.bind (n_a M95 20 (25 : Int32)) fun M97 =>
  Option.bind (p_r M97 12 30 (some a0) (some (h_sz M95))) fun M99 =>
  Option.bind (n_a M99 20 (64 : Int32)) fun M101 =>
  Option.bind (p_r M101 12 31 (some a0) (some (h_sz M99))) fun M103 =>
  Option.bind (n_a M103 20 (25 : Int32)) fun M105 =>
  Option.bind (p_r M105 12 32 (some a0) (some (h_sz M103))) fun M107 =>
  Option.bind (n_a M107 22 (8 : Int32)) fun M109 =>
  Option.bind (p_r M109 12 33 (some a0) (some (h_sz M107))) fun M111 =>
  Option.bind (n_a M111 22 (8 : Int32)) fun M113 =>
  Option.bind (p_r M113 12 34 (some a0) (some (h_sz M111))) fun M115 =>
  Option.bind (n_a M115 20 (8 : Int32)) fun M117 =>
  Option.bind (p_r M117 12 35 (some a0) (some (h_sz M115))) fun M119 =>
  Option.bind (n_a M119 20 (8 : Int32)) fun M121 =>
  Option.bind (p_r M121 12 36 (some a0) (some (h_sz M119))) fun M123 =>
  Option.bind (n_a M123 20 (8 : Int32)) fun M125 =>
  Option.bind (p_r M125 12 37 (some a0) (some (h_sz M123))) fun M127 =>
  Option.bind (n_a M127 20 (64 : Int32)) fun M129 =>
  Option.bind (p_r M129 12 39 (some a0) (some (h_sz M127))) fun M131 =>
  Option.bind (n_a M131 20 (64 : Int32)) fun M133 =>
  Option.bind (p_r M133 12 40 (some a0) (some (h_sz M131))) fun M135 =>
  Option.bind (n_a M135 20 (8 : Int32)) fun M137 =>
  Option.bind (p_r M137 12 41 (some a0) (some (h_sz M135))) fun M139 =>
  Option.bind (n_a M139 23 (256 : Int32)) fun M141 =>
  Option.bind (p_r M141 12 42 (some a0) (some (h_sz M139))) fun M143 =>
  Option.bind (n_a M143 20 (8 : Int32)) fun M145 =>
  Option.bind (p_r M145 12 43 (some a0) (some (h_sz M143))) fun M147 =>
  Option.bind (n_a M147 20 (384 : Int32)) fun M149 =>
  Option.bind (p_r M149 12 44 (some a0) (some (h_sz M147))) fun M151 =>
  Option.bind (n_a M151 23 (192 : Int32)) fun M153 =>
  Option.bind (p_r M153 12 45 (some a0) (some (h_sz M151))) fun M155 =>
  Option.bind (n_a M155 20 (8 : Int32)) fun M157 =>
  Option.bind (p_r M157 12 46 (some a0) (some (h_sz M155))) fun M159 =>
  Option.bind (n_a M159 20 (300 : Int32)) fun M161 =>
  Option.bind (p_r M161 12 48 (some a0) (some (h_sz M159))) fun M163 =>
  Option.bind (n_a M163 20 (300 : Int32)) fun M165 =>
  Option.bind (p_r M165 12 49 (some a0) (some (h_sz M163))) fun M167 =>
  Option.bind (n_a M167 22 (300 : Int32)) fun M169 =>
  Option.bind (p_r M169 12 50 (some a0) (some (h_sz M167))) fun M171 =>
  Option.bind (n_a M171 20 (300 : Int32)) fun M173 =>
  Option.bind (p_r M173 12 51 (some a0) (some (h_sz M171))) fun M175 =>
  Option.bind (n_a M175 20 (300 : Int32)) fun M177 =>
  Option.bind (p_r M177 12 52 (some a0) (some (h_sz M175))) fun M179 =>
  Option.bind (n_a M179 20 (300 : Int32)) fun M181 =>
  Option.bind (p_r M181 12 53 (some a0) (some (h_sz M179))) fun M183 =>
  Option.bind (n_a M183 23 (1200 : Int32)) fun M185 =>
  Option.bind (p_r M185 12 54 (some a0) (some (h_sz M183))) fun M187 =>
  Option.bind (n_a M187 20 (300 : Int32)) fun M189 =>
  Option.bind (p_r M189 12 55 (some a0) (some (h_sz M187))) fun M191 =>
  Option.bind (n_a M191 20 (300 : Int32)) fun M193 =>
  Option.bind (p_r M193 12 56 (some a0) (some (h_sz M191))) fun M195 =>
  Option.bind (n_a M195 20 (300 : Int32)) fun M197 =>
  Option.bind (p_r M197 12 57 (some a0) (some (h_sz M195))) fun M199 =>
  Option.bind (n_a M199 20 (300 : Int32)) fun M201 =>
  Option.bind (p_r M201 12 58 (some a0) (some (h_sz M199))) fun M203 =>
  Option.bind (n_a M203 20 (300 : Int32)) fun M205 =>
  Option.bind (p_r M205 12 59 (some a0) (some (h_sz M203))) fun M207 =>
  Option.bind (n_a M207 20 (300 : Int32)) fun M209 =>
  Option.bind (p_r M209 12 60 (some a0) (some (h_sz M207))) fun M211 =>
  if v1 < (1 : Int32) then
    (b164_462 a0 v2 v3 (some a0) M211)
  else
    (if (5 : Int32) < v1 then
      (b164_462 a0 v2 v3 (some a0) M211)
    else
      (b164_463 a0 v2 v3 v1 (some a0) M211))
def b164_508 (a0 : Nat) (v4 : Int32) (M : hM) : Option xRes :=
  if (48 : Int32) ≤ v4 then
    (some (.inr (548, [.inr (.inr (some a0)), .inl (0 : Int32)], M)))
  else
    (Option.bind (g_r M 12 14 (some a0)) fun o_225 =>
    Option.bind (as_i M 20 o_225 v4 (-1 : Int32)) fun M227 =>
    Option.bind (g_r M227 12 15 (some a0)) fun o_229 =>
    Option.bind (as_i M227 20 o_229 v4 (-1 : Int32)) fun M231 =>
    Option.bind (g_r M231 12 23 (some a0)) fun o_233 =>
    Option.bind (as_i M231 20 o_233 v4 (-1 : Int32)) fun M235 =>
    some (.inr (508, [.inr (.inr (some a0)), .inl (v4 + (1 : Int32))], M235)))
def b164_548 (a0 : Nat) (v4 : Int32) (M : hM) : Option xRes :=
  if (5 : Int32) ≤ v4 then
    (some (.inr (574, [.inr (.inr (some a0)), .inl (0 : Int32)], M)))
  else
    (Option.bind (g_r M 12 26 (some a0)) fun o_238 =>
    Option.bind (as_i M 20 o_238 v4 (v4 + (1 : Int32))) fun M240 =>
    some (.inr (548, [.inr (.inr (some a0)), .inl (v4 + (1 : Int32))], M240)))
def b164_574 (a0 : Nat) (v4 : Int32) (M : hM) : Option xRes :=
  if (1800 : Int32) ≤ v4 then
    (Option.bind (p_i M 12 9 (some a0) (1800 : Int32)) fun M243 =>
    some (.inl (none, M243)))
  else
    (Option.bind (g_r M 12 8 (some a0)) fun o_245 =>
    Option.bind (as_i M 20 o_245 v4 v4) fun M247 =>
    some (.inr (574, [.inr (.inr (some a0)), .inl (v4 + (1 : Int32))], M247)))
def k164 (h : Nat) (as : List aV) (M : hM) : Option xRes :=
  if h = 508 then (match as with | [.inr (.inr (some a0)), .inl v4] => b164_508 a0 v4 M | _ => none) else
  if h = 548 then (match as with | [.inr (.inr (some a0)), .inl v4] => b164_548 a0 v4 M | _ => none) else
  if h = 574 then (match as with | [.inr (.inr (some a0)), .inl v4] => b164_574 a0 v4 M | _ => none) else
  none
def f164 (as : List aV) (M : hM) : xO := match as with
  | [.inr (.inr (some a0)), .inl v1, .inl v2, .inl v3] => x_go k164 (b164_0 a0 v1 v2 v3 M)
  | _ => none
theorem lb164_502 (G : gX) (l : Launch) (a0 : Nat) (si0 : Int32) (sr1 : Option Nat) (M : hM) {res : xRes} (h : b164_502 a0 si0 sr1 M = some res) : h_sz M ≤ r_sz res ∧ h_sl M ≤ r_sl res := by
  unfold b164_502 at h
  obtain ⟨M223, h224, h⟩ := bd h
  have eh224 := p_i_sz h224
  obtain rfl := Option.some.inj h
  show h_sz M ≤ h_sz M223 ∧ h_sl M ≤ h_sl M223
  omega
theorem lb164_501 (G : gX) (l : Launch) (a0 : Nat) (sr0 : Option Nat) (M : hM) {res : xRes} (h : b164_501 a0 sr0 M = some res) : h_sz M ≤ r_sz res ∧ h_sl M ≤ r_sl res := by
  unfold b164_501 at h
  have e := lb164_502 G l a0 (2 : Int32) sr0 M h
  omega
theorem lb164_483 (G : gX) (l : Launch) (a0 : Nat) (v3 : Int32) (si0 : Int32) (sr1 : Option Nat) (M : hM) {res : xRes} (h : b164_483 a0 v3 si0 sr1 M = some res) : h_sz M ≤ r_sz res ∧ h_sl M ≤ r_sl res := by
  unfold b164_483 at h
  obtain ⟨M219, h220, h⟩ := bd h
  have eh220 := p_i_sz h220
  by_cases q222 : v3 < (1 : Int32)
  · rw [if_pos q222] at h
    have e := lb164_501 G l a0 (some a0) M219 h
    omega
  · rw [if_neg q222] at h
    by_cases q221 : (4 : Int32) < v3
    · rw [if_pos q221] at h
      have e := lb164_501 G l a0 (some a0) M219 h
      omega
    · rw [if_neg q221] at h
      have e := lb164_502 G l a0 v3 (some a0) M219 h
      omega
theorem lb164_482 (G : gX) (l : Launch) (a0 : Nat) (v3 : Int32) (sr0 : Option Nat) (M : hM) {res : xRes} (h : b164_482 a0 v3 sr0 M = some res) : h_sz M ≤ r_sz res ∧ h_sl M ≤ r_sl res := by
  unfold b164_482 at h
  have e := lb164_483 G l a0 v3 (2 : Int32) sr0 M h
  omega
theorem lb164_463 (G : gX) (l : Launch) (a0 : Nat) (v2 : Int32) (v3 : Int32) (si0 : Int32) (sr1 : Option Nat) (M : hM) {res : xRes} (h : b164_463 a0 v2 v3 si0 sr1 M = some res) : h_sz M ≤ r_sz res ∧ h_sl M ≤ r_sl res := by
  unfold b164_463 at h
  obtain ⟨M215, h216, h⟩ := bd h
  have eh216 := p_i_sz h216
  by_cases q218 : v2 < (1 : Int32)
  · rw [if_pos q218] at h
    have e := lb164_482 G l a0 v3 (some a0) M215 h
    omega
  · rw [if_neg q218] at h
    by_cases q217 : (8 : Int32) < v2
    · rw [if_pos q217] at h
      have e := lb164_482 G l a0 v3 (some a0) M215 h
      omega
    · rw [if_neg q217] at h
      have e := lb164_483 G l a0 v3 v2 (some a0) M215 h
      omega
theorem lb164_462 (G : gX) (l : Launch) (a0 : Nat) (v2 : Int32) (v3 : Int32) (sr0 : Option Nat) (M : hM) {res : xRes} (h : b164_462 a0 v2 v3 sr0 M = some res) : h_sz M ≤ r_sz res ∧ h_sl M ≤ r_sl res := by
  unfold b164_462 at h
  have e := lb164_463 G l a0 v2 v3 (2 : Int32) sr0 M h
  omega
theorem lb164_0 (G : gX) (l : Launch) (a0 : Nat) (v1 : Int32) (v2 : Int32) (v3 : Int32) (M : hM) {res : xRes} (h : b164_0 a0 v1 v2 v3 M = some res) : h_sz M ≤ r_sz res ∧ h_sl M ≤ r_sl res := by
  unfold b164_0 at h
  obtain ⟨M1, h2, h⟩ := bd h
  have eh2 := n_a_sz h2
  obtain ⟨M3, h4, h⟩ := bd h
  have eh4 := p_r_sz h4
  obtain ⟨M5, h6, h⟩ := bd h
  have eh6 := n_a_sz h6
  obtain ⟨M7, h8, h⟩ := bd h
  have eh8 := p_r_sz h8
  obtain ⟨M9, h10, h⟩ := bd h
  have eh10 := n_a_sz h10
  obtain ⟨M11, h12, h⟩ := bd h
  have eh12 := p_r_sz h12
  obtain ⟨M13, h14, h⟩ := bd h
  have eh14 := n_a_sz h14
  obtain ⟨M15, h16, h⟩ := bd h
  have eh16 := p_r_sz h16
  obtain ⟨M17, h18, h⟩ := bd h
  have eh18 := n_a_sz h18
  obtain ⟨M19, h20, h⟩ := bd h
  have eh20 := p_r_sz h20
  obtain ⟨M21, h22, h⟩ := bd h
  have eh22 := n_a_sz h22
  obtain ⟨M23, h24, h⟩ := bd h
  have eh24 := p_r_sz h24
  obtain ⟨M25, h26, h⟩ := bd h
  have eh26 := n_a_sz h26
  obtain ⟨M27, h28, h⟩ := bd h
  have eh28 := p_r_sz h28
  obtain ⟨M29, h30, h⟩ := bd h
  have eh30 := n_a_sz h30
  obtain ⟨M31, h32, h⟩ := bd h
  have eh32 := p_r_sz h32
  obtain ⟨M33, h34, h⟩ := bd h
  have eh34 := n_a_sz h34
  obtain ⟨M35, h36, h⟩ := bd h
  have eh36 := p_r_sz h36
  obtain ⟨M37, h38, h⟩ := bd h
  have eh38 := n_a_sz h38
  obtain ⟨M39, h40, h⟩ := bd h
  have eh40 := p_r_sz h40
  obtain ⟨M41, h42, h⟩ := bd h
  have eh42 := n_a_sz h42
  obtain ⟨M43, h44, h⟩ := bd h
  have eh44 := p_r_sz h44
  obtain ⟨M45, h46, h⟩ := bd h
  have eh46 := n_a_sz h46
  obtain ⟨M47, h48, h⟩ := bd h
  have eh48 := p_r_sz h48
  obtain ⟨M49, h50, h⟩ := bd h
  have eh50 := n_a_sz h50
  obtain ⟨M51, h52, h⟩ := bd h
  have eh52 := p_r_sz h52
  obtain ⟨M53, h54, h⟩ := bd h
  have eh54 := n_a_sz h54
  obtain ⟨M55, h56, h⟩ := bd h
  have eh56 := p_r_sz h56
  obtain ⟨M57, h58, h⟩ := bd h
  have eh58 := n_a_sz h58
  obtain ⟨M59, h60, h⟩ := bd h
  have eh60 := p_r_sz h60
  obtain ⟨M61, h62, h⟩ := bd h
  have eh62 := n_a_sz h62
  obtain ⟨M63, h64, h⟩ := bd h
  have eh64 := p_r_sz h64
  obtain ⟨M65, h66, h⟩ := bd h
  have eh66 := n_a_sz h66
  obtain ⟨M67, h68, h⟩ := bd h
  have eh68 := p_r_sz h68
  obtain ⟨M69, h70, h⟩ := bd h
  have eh70 := n_a_sz h70
  obtain ⟨M71, h72, h⟩ := bd h
  have eh72 := p_r_sz h72
  obtain ⟨M73, h74, h⟩ := bd h
  have eh74 := n_a_sz h74
  obtain ⟨M75, h76, h⟩ := bd h
  have eh76 := p_r_sz h76
  obtain ⟨M77, h78, h⟩ := bd h
  have eh78 := n_a_sz h78
  obtain ⟨M79, h80, h⟩ := bd h
  have eh80 := p_r_sz h80
  obtain ⟨M81, h82, h⟩ := bd h
  have eh82 := n_a_sz h82
  obtain ⟨M83, h84, h⟩ := bd h
  have eh84 := p_r_sz h84
  obtain ⟨M85, h86, h⟩ := bd h
  have eh86 := n_a_sz h86
  obtain ⟨M87, h88, h⟩ := bd h
  have eh88 := p_r_sz h88
  obtain ⟨M89, h90, h⟩ := bd h
  have eh90 := n_a_sz h90
  obtain ⟨M91, h92, h⟩ := bd h
  have eh92 := p_r_sz h92
  obtain ⟨M93, h94, h⟩ := bd h
  have eh94 := n_a_sz h94
  obtain ⟨M95, h96, h⟩ := bd h
  have eh96 := p_r_sz h96
  obtain ⟨M97, h98, h⟩ := bd h
  have eh98 := n_a_sz h98
  obtain ⟨M99, h100, h⟩ := bd h
  have eh100 := p_r_sz h100
  obtain ⟨M101, h102, h⟩ := bd h
  have eh102 := n_a_sz h102
  obtain ⟨M103, h104, h⟩ := bd h
  have eh104 := p_r_sz h104
  obtain ⟨M105, h106, h⟩ := bd h
  have eh106 := n_a_sz h106
  obtain ⟨M107, h108, h⟩ := bd h
  have eh108 := p_r_sz h108
  obtain ⟨M109, h110, h⟩ := bd h
  have eh110 := n_a_sz h110
  obtain ⟨M111, h112, h⟩ := bd h
  have eh112 := p_r_sz h112
  obtain ⟨M113, h114, h⟩ := bd h
  have eh114 := n_a_sz h114
  obtain ⟨M115, h116, h⟩ := bd h
  have eh116 := p_r_sz h116
  obtain ⟨M117, h118, h⟩ := bd h
  have eh118 := n_a_sz h118
  obtain ⟨M119, h120, h⟩ := bd h
  have eh120 := p_r_sz h120
  obtain ⟨M121, h122, h⟩ := bd h
  have eh122 := n_a_sz h122
  obtain ⟨M123, h124, h⟩ := bd h
  have eh124 := p_r_sz h124
  obtain ⟨M125, h126, h⟩ := bd h
  have eh126 := n_a_sz h126
  obtain ⟨M127, h128, h⟩ := bd h
  have eh128 := p_r_sz h128
  obtain ⟨M129, h130, h⟩ := bd h
  have eh130 := n_a_sz h130
  obtain ⟨M131, h132, h⟩ := bd h
  have eh132 := p_r_sz h132
  obtain ⟨M133, h134, h⟩ := bd h
  have eh134 := n_a_sz h134
  obtain ⟨M135, h136, h⟩ := bd h
  have eh136 := p_r_sz h136
  obtain ⟨M137, h138, h⟩ := bd h
  have eh138 := n_a_sz h138
  obtain ⟨M139, h140, h⟩ := bd h
  have eh140 := p_r_sz h140
  obtain ⟨M141, h142, h⟩ := bd h
  have eh142 := n_a_sz h142
  obtain ⟨M143, h144, h⟩ := bd h
  have eh144 := p_r_sz h144
  obtain ⟨M145, h146, h⟩ := bd h
  have eh146 := n_a_sz h146
  obtain ⟨M147, h148, h⟩ := bd h
  have eh148 := p_r_sz h148
  obtain ⟨M149, h150, h⟩ := bd h
  have eh150 := n_a_sz h150
  obtain ⟨M151, h152, h⟩ := bd h
  have eh152 := p_r_sz h152
  obtain ⟨M153, h154, h⟩ := bd h
  have eh154 := n_a_sz h154
  obtain ⟨M155, h156, h⟩ := bd h
  have eh156 := p_r_sz h156
  obtain ⟨M157, h158, h⟩ := bd h
  have eh158 := n_a_sz h158
  obtain ⟨M159, h160, h⟩ := bd h
  have eh160 := p_r_sz h160
  obtain ⟨M161, h162, h⟩ := bd h
  have eh162 := n_a_sz h162
  obtain ⟨M163, h164, h⟩ := bd h
  have eh164 := p_r_sz h164
  obtain ⟨M165, h166, h⟩ := bd h
  have eh166 := n_a_sz h166
  obtain ⟨M167, h168, h⟩ := bd h
  have eh168 := p_r_sz h168
  obtain ⟨M169, h170, h⟩ := bd h
  have eh170 := n_a_sz h170
  obtain ⟨M171, h172, h⟩ := bd h
  have eh172 := p_r_sz h172
  obtain ⟨M173, h174, h⟩ := bd h
  have eh174 := n_a_sz h174
  obtain ⟨M175, h176, h⟩ := bd h
  have eh176 := p_r_sz h176
  obtain ⟨M177, h178, h⟩ := bd h
  have eh178 := n_a_sz h178
  obtain ⟨M179, h180, h⟩ := bd h
  have eh180 := p_r_sz h180
  obtain ⟨M181, h182, h⟩ := bd h
  have eh182 := n_a_sz h182
  obtain ⟨M183, h184, h⟩ := bd h
  have eh184 := p_r_sz h184
  obtain ⟨M185, h186, h⟩ := bd h
  have eh186 := n_a_sz h186
  obtain ⟨M187, h188, h⟩ := bd h
  have eh188 := p_r_sz h188
  obtain ⟨M189, h190, h⟩ := bd h
  have eh190 := n_a_sz h190
  obtain ⟨M191, h192, h⟩ := bd h
  have eh192 := p_r_sz h192
  obtain ⟨M193, h194, h⟩ := bd h
  have eh194 := n_a_sz h194
  obtain ⟨M195, h196, h⟩ := bd h
  have eh196 := p_r_sz h196
  obtain ⟨M197, h198, h⟩ := bd h
  have eh198 := n_a_sz h198
  obtain ⟨M199, h200, h⟩ := bd h
  have eh200 := p_r_sz h200
  obtain ⟨M201, h202, h⟩ := bd h
  have eh202 := n_a_sz h202
  obtain ⟨M203, h204, h⟩ := bd h
  have eh204 := p_r_sz h204
  obtain ⟨M205, h206, h⟩ := bd h
  have eh206 := n_a_sz h206
  obtain ⟨M207, h208, h⟩ := bd h
  have eh208 := p_r_sz h208
  obtain ⟨M209, h210, h⟩ := bd h
  have eh210 := n_a_sz h210
  obtain ⟨M211, h212, h⟩ := bd h
  have eh212 := p_r_sz h212
  by_cases q214 : v1 < (1 : Int32)
  · rw [if_pos q214] at h
    have e := lb164_462 G l a0 v2 v3 (some a0) M211 h
    omega
  · rw [if_neg q214] at h
    by_cases q213 : (5 : Int32) < v1
    · rw [if_pos q213] at h
      have e := lb164_462 G l a0 v2 v3 (some a0) M211 h
      omega
    · rw [if_neg q213] at h
      have e := lb164_463 G l a0 v2 v3 v1 (some a0) M211 h
      omega
theorem lb164_508 (G : gX) (l : Launch) (a0 : Nat) (v4 : Int32) (M : hM) {res : xRes} (h : b164_508 a0 v4 M = some res) : h_sz M ≤ r_sz res ∧ h_sl M ≤ r_sl res := by
  unfold b164_508 at h
  by_cases q237 : (48 : Int32) ≤ v4
  · rw [if_pos q237] at h
    obtain rfl := Option.some.inj h
    show h_sz M ≤ h_sz M ∧ h_sl M ≤ h_sl M
    omega
  · rw [if_neg q237] at h
    obtain ⟨o_225, h226, h⟩ := bd h
    obtain ⟨M227, h228, h⟩ := bd h
    have eh228 := as_i_sz h228
    obtain ⟨o_229, h230, h⟩ := bd h
    obtain ⟨M231, h232, h⟩ := bd h
    have eh232 := as_i_sz h232
    obtain ⟨o_233, h234, h⟩ := bd h
    obtain ⟨M235, h236, h⟩ := bd h
    have eh236 := as_i_sz h236
    obtain rfl := Option.some.inj h
    show h_sz M ≤ h_sz M235 ∧ h_sl M ≤ h_sl M235
    omega
theorem lb164_548 (G : gX) (l : Launch) (a0 : Nat) (v4 : Int32) (M : hM) {res : xRes} (h : b164_548 a0 v4 M = some res) : h_sz M ≤ r_sz res ∧ h_sl M ≤ r_sl res := by
  unfold b164_548 at h
  by_cases q242 : (5 : Int32) ≤ v4
  · rw [if_pos q242] at h
    obtain rfl := Option.some.inj h
    show h_sz M ≤ h_sz M ∧ h_sl M ≤ h_sl M
    omega
  · rw [if_neg q242] at h
    obtain ⟨o_238, h239, h⟩ := bd h
    obtain ⟨M240, h241, h⟩ := bd h
    have eh241 := as_i_sz h241
    obtain rfl := Option.some.inj h
    show h_sz M ≤ h_sz M240 ∧ h_sl M ≤ h_sl M240
    omega
theorem lb164_574 (G : gX) (l : Launch) (a0 : Nat) (v4 : Int32) (M : hM) {res : xRes} (h : b164_574 a0 v4 M = some res) : h_sz M ≤ r_sz res ∧ h_sl M ≤ r_sl res := by
  unfold b164_574 at h
  by_cases q249 : (1800 : Int32) ≤ v4
  · rw [if_pos q249] at h
    obtain ⟨M243, h244, h⟩ := bd h
    have eh244 := p_i_sz h244
    obtain rfl := Option.some.inj h
    show h_sz M ≤ h_sz M243 ∧ h_sl M ≤ h_sl M243
    omega
  · rw [if_neg q249] at h
    obtain ⟨o_245, h246, h⟩ := bd h
    obtain ⟨M247, h248, h⟩ := bd h
    have eh248 := as_i_sz h248
    obtain rfl := Option.some.inj h
    show h_sz M ≤ h_sz M247 ∧ h_sl M ≤ h_sl M247
    omega
section
variable {p : Program} {l : Launch} {e : Env} {s : State} {m : MethodId} {args : Array Value} {below : List Frame} {meth : Method} {c : Code} {G : gX} {z0 y0 : Nat} {r : Option aV} {M' : hM}
def pg164 (p : Program) (l : Launch) (e : Env) (s : State) (m : MethodId) (args : Array Value) (below : List Frame) (meth : Method) (c : Code) (G : gX) (z0 y0 : Nat) (r : Option aV) (M' : hM) (h : Nat) (as : List aV) (M : hM) : Prop :=
  if h = 508 then (match as with | [.inr (.inr (some a0)), .inl v4] => xV G p l e (xRm 1 (h_sz M' - z0) (h_sl M' - y0)) s m args below meth c z0 y0 (h_sz M') (h_sl M') 5 (MQ below (xQc G r M') args s (h_sz M' - z0) (h_sl M' - y0) (xFr G)) 508 [(0, .inr (.inr (some a0))), (4, .inl v4)] [] M | _ => False) else
  if h = 548 then (match as with | [.inr (.inr (some a0)), .inl v4] => xV G p l e (xRm 1 (h_sz M' - z0) (h_sl M' - y0)) s m args below meth c z0 y0 (h_sz M') (h_sl M') 5 (MQ below (xQc G r M') args s (h_sz M' - z0) (h_sl M' - y0) (xFr G)) 548 [(0, .inr (.inr (some a0))), (4, .inl v4)] [] M | _ => False) else
  if h = 574 then (match as with | [.inr (.inr (some a0)), .inl v4] => xV G p l e (xRm 1 (h_sz M' - z0) (h_sl M' - y0)) s m args below meth c z0 y0 (h_sz M') (h_sl M') 5 (MQ below (xQc G r M') args s (h_sz M' - z0) (h_sl M' - y0) (xFr G)) 574 [(0, .inr (.inr (some a0))), (4, .inl v4)] [] M | _ => False) else
  False
theorem sb164_502 (E : xE G p (xRm 1 (h_sz M' - z0) (h_sl M' - y0)) s m args c prog_14_method_1_code "ZonedFabricModel" z0 y0 (h_sz M') (h_sl M') 5) (B : xB ym164 none meth) (a0 : Nat) (si0 : Int32) (sr1 : Option Nat) (M : hM) {res : xRes} (h : b164_502 a0 si0 sr1 M = some res) (hN : xN (pg164 p l e s m args below meth c G z0 y0 r M') r M' res) : xV G p l e (xRm 1 (h_sz M' - z0) (h_sl M' - y0)) s m args below meth c z0 y0 (h_sz M') (h_sl M') 5 (MQ below (xQc G r M') args s (h_sz M' - z0) (h_sl M' - y0) (xFr G)) 502 [(0, .inr (.inr (some a0)))] [.inl si0, .inr (.inr sr1)] M := by
  unfold b164_502 at h
  obtain ⟨M223, h224, h⟩ := bd h
  refine xp_i E 12 2 h224 mw923 (show decode prog_14_method_1_code 502 = .ok (.putfield 180, 3) by decide +kernel) (Or.inr ⟨rfl, B.2.2, rfl⟩) ?_
  refine xv_b E [.iconst 0, .istore 4] (pc' := 508) (lv' := [(4, .inl (0 : Int32)), (0, .inr (.inr (some a0)))]) (st' := []) (by decide +kernel) rfl rfl ?_
  obtain rfl := Option.some.inj h
  exact xv_w hN rfl
theorem sb164_501 (E : xE G p (xRm 1 (h_sz M' - z0) (h_sl M' - y0)) s m args c prog_14_method_1_code "ZonedFabricModel" z0 y0 (h_sz M') (h_sl M') 5) (B : xB ym164 none meth) (a0 : Nat) (sr0 : Option Nat) (M : hM) {res : xRes} (h : b164_501 a0 sr0 M = some res) (hN : xN (pg164 p l e s m args below meth c G z0 y0 r M') r M' res) : xV G p l e (xRm 1 (h_sz M' - z0) (h_sl M' - y0)) s m args below meth c z0 y0 (h_sz M') (h_sl M') 5 (MQ below (xQc G r M') args s (h_sz M' - z0) (h_sl M' - y0) (xFr G)) 501 [(0, .inr (.inr (some a0)))] [.inr (.inr sr0)] M := by
  unfold b164_501 at h
  refine xv_b E [.iconst 2] (pc' := 502) (lv' := [(0, .inr (.inr (some a0)))]) (st' := [.inl (2 : Int32), .inr (.inr sr0)]) (by decide +kernel) rfl rfl ?_
  exact xv_w (sb164_502 E B a0 (2 : Int32) sr0 M h hN) rfl
theorem sb164_483 (E : xE G p (xRm 1 (h_sz M' - z0) (h_sl M' - y0)) s m args c prog_14_method_1_code "ZonedFabricModel" z0 y0 (h_sz M') (h_sl M') 5) (B : xB ym164 none meth) (a0 : Nat) (v3 : Int32) (si0 : Int32) (sr1 : Option Nat) (M : hM) {res : xRes} (h : b164_483 a0 v3 si0 sr1 M = some res) (hN : xN (pg164 p l e s m args below meth c G z0 y0 r M') r M' res) : xV G p l e (xRm 1 (h_sz M' - z0) (h_sl M' - y0)) s m args below meth c z0 y0 (h_sz M') (h_sl M') 5 (MQ below (xQc G r M') args s (h_sz M' - z0) (h_sl M' - y0) (xFr G)) 483 [(0, .inr (.inr (some a0))), (3, .inl v3)] [.inl si0, .inr (.inr sr1)] M := by
  unfold b164_483 at h
  obtain ⟨M219, h220, h⟩ := bd h
  refine xp_i E 12 1 h220 mw922 (show decode prog_14_method_1_code 483 = .ok (.putfield 177, 3) by decide +kernel) (Or.inr ⟨rfl, B.2.2, rfl⟩) ?_
  refine xv_b E [.aload_n 0, .iload_n 3, .iconst 1] (pc' := 489) (lv' := [(0, .inr (.inr (some a0))), (3, .inl v3)]) (st' := [.inl (1 : Int32), .inl v3, .inr (.inr (some a0))]) (by decide +kernel) rfl rfl ?_
  by_cases q222 : v3 < (1 : Int32)
  · rw [if_pos q222] at h
    refine xv_icmp_lt E 501 (show decode prog_14_method_1_code 489 = .ok (.if_icmp .lt (12), 3) by decide +kernel) rfl (fun _ => ?_) (fun z => absurd q222 z)
    exact xv_w (sb164_501 E B a0 (some a0) M219 h hN) rfl
  · rw [if_neg q222] at h
    refine xv_icmp_lt E 501 (show decode prog_14_method_1_code 489 = .ok (.if_icmp .lt (12), 3) by decide +kernel) rfl (fun z => absurd z q222) (fun _ => ?_)
    refine xv_b E [.iload_n 3, .iconst 4] (pc' := 494) (lv' := [(0, .inr (.inr (some a0))), (3, .inl v3)]) (st' := [.inl (4 : Int32), .inl v3, .inr (.inr (some a0))]) (by decide +kernel) rfl rfl ?_
    by_cases q221 : (4 : Int32) < v3
    · rw [if_pos q221] at h
      refine xv_icmp_gt E 501 (show decode prog_14_method_1_code 494 = .ok (.if_icmp .gt (7), 3) by decide +kernel) rfl (fun _ => ?_) (fun z => absurd q221 z)
      exact xv_w (sb164_501 E B a0 (some a0) M219 h hN) rfl
    · rw [if_neg q221] at h
      refine xv_icmp_gt E 501 (show decode prog_14_method_1_code 494 = .ok (.if_icmp .gt (7), 3) by decide +kernel) rfl (fun z => absurd z q221) (fun _ => ?_)
      refine xv_b E [.iload_n 3] (pc' := 498) (lv' := [(0, .inr (.inr (some a0))), (3, .inl v3)]) (st' := [.inl v3, .inr (.inr (some a0))]) (by decide +kernel) rfl rfl ?_
      refine xv_goto E 502 (show decode prog_14_method_1_code 498 = .ok (.goto (4), 3) by decide +kernel) rfl ?_
      exact xv_w (sb164_502 E B a0 v3 (some a0) M219 h hN) rfl
theorem sb164_482 (E : xE G p (xRm 1 (h_sz M' - z0) (h_sl M' - y0)) s m args c prog_14_method_1_code "ZonedFabricModel" z0 y0 (h_sz M') (h_sl M') 5) (B : xB ym164 none meth) (a0 : Nat) (v3 : Int32) (sr0 : Option Nat) (M : hM) {res : xRes} (h : b164_482 a0 v3 sr0 M = some res) (hN : xN (pg164 p l e s m args below meth c G z0 y0 r M') r M' res) : xV G p l e (xRm 1 (h_sz M' - z0) (h_sl M' - y0)) s m args below meth c z0 y0 (h_sz M') (h_sl M') 5 (MQ below (xQc G r M') args s (h_sz M' - z0) (h_sl M' - y0) (xFr G)) 482 [(0, .inr (.inr (some a0))), (3, .inl v3)] [.inr (.inr sr0)] M := by
  unfold b164_482 at h
  refine xv_b E [.iconst 2] (pc' := 483) (lv' := [(0, .inr (.inr (some a0))), (3, .inl v3)]) (st' := [.inl (2 : Int32), .inr (.inr sr0)]) (by decide +kernel) rfl rfl ?_
  exact xv_w (sb164_483 E B a0 v3 (2 : Int32) sr0 M h hN) rfl
theorem sb164_463 (E : xE G p (xRm 1 (h_sz M' - z0) (h_sl M' - y0)) s m args c prog_14_method_1_code "ZonedFabricModel" z0 y0 (h_sz M') (h_sl M') 5) (B : xB ym164 none meth) (a0 : Nat) (v2 : Int32) (v3 : Int32) (si0 : Int32) (sr1 : Option Nat) (M : hM) {res : xRes} (h : b164_463 a0 v2 v3 si0 sr1 M = some res) (hN : xN (pg164 p l e s m args below meth c G z0 y0 r M') r M' res) : xV G p l e (xRm 1 (h_sz M' - z0) (h_sl M' - y0)) s m args below meth c z0 y0 (h_sz M') (h_sl M') 5 (MQ below (xQc G r M') args s (h_sz M' - z0) (h_sl M' - y0) (xFr G)) 463 [(0, .inr (.inr (some a0))), (2, .inl v2), (3, .inl v3)] [.inl si0, .inr (.inr sr1)] M := by
  unfold b164_463 at h
  obtain ⟨M215, h216, h⟩ := bd h
  refine xp_i E 12 0 h216 mw921 (show decode prog_14_method_1_code 463 = .ok (.putfield 173, 3) by decide +kernel) (Or.inr ⟨rfl, B.2.2, rfl⟩) ?_
  refine xv_b E [.aload_n 0, .iload_n 2, .iconst 1] (pc' := 469) (lv' := [(0, .inr (.inr (some a0))), (2, .inl v2), (3, .inl v3)]) (st' := [.inl (1 : Int32), .inl v2, .inr (.inr (some a0))]) (by decide +kernel) rfl rfl ?_
  by_cases q218 : v2 < (1 : Int32)
  · rw [if_pos q218] at h
    refine xv_icmp_lt E 482 (show decode prog_14_method_1_code 469 = .ok (.if_icmp .lt (13), 3) by decide +kernel) rfl (fun _ => ?_) (fun z => absurd q218 z)
    exact xv_w (sb164_482 E B a0 v3 (some a0) M215 h hN) rfl
  · rw [if_neg q218] at h
    refine xv_icmp_lt E 482 (show decode prog_14_method_1_code 469 = .ok (.if_icmp .lt (13), 3) by decide +kernel) rfl (fun z => absurd z q218) (fun _ => ?_)
    refine xv_b E [.iload_n 2, .bipush 8] (pc' := 475) (lv' := [(0, .inr (.inr (some a0))), (2, .inl v2), (3, .inl v3)]) (st' := [.inl (8 : Int32), .inl v2, .inr (.inr (some a0))]) (by decide +kernel) rfl rfl ?_
    by_cases q217 : (8 : Int32) < v2
    · rw [if_pos q217] at h
      refine xv_icmp_gt E 482 (show decode prog_14_method_1_code 475 = .ok (.if_icmp .gt (7), 3) by decide +kernel) rfl (fun _ => ?_) (fun z => absurd q217 z)
      exact xv_w (sb164_482 E B a0 v3 (some a0) M215 h hN) rfl
    · rw [if_neg q217] at h
      refine xv_icmp_gt E 482 (show decode prog_14_method_1_code 475 = .ok (.if_icmp .gt (7), 3) by decide +kernel) rfl (fun z => absurd z q217) (fun _ => ?_)
      refine xv_b E [.iload_n 2] (pc' := 479) (lv' := [(0, .inr (.inr (some a0))), (2, .inl v2), (3, .inl v3)]) (st' := [.inl v2, .inr (.inr (some a0))]) (by decide +kernel) rfl rfl ?_
      refine xv_goto E 483 (show decode prog_14_method_1_code 479 = .ok (.goto (4), 3) by decide +kernel) rfl ?_
      exact xv_w (sb164_483 E B a0 v3 v2 (some a0) M215 h hN) rfl
theorem sb164_462 (E : xE G p (xRm 1 (h_sz M' - z0) (h_sl M' - y0)) s m args c prog_14_method_1_code "ZonedFabricModel" z0 y0 (h_sz M') (h_sl M') 5) (B : xB ym164 none meth) (a0 : Nat) (v2 : Int32) (v3 : Int32) (sr0 : Option Nat) (M : hM) {res : xRes} (h : b164_462 a0 v2 v3 sr0 M = some res) (hN : xN (pg164 p l e s m args below meth c G z0 y0 r M') r M' res) : xV G p l e (xRm 1 (h_sz M' - z0) (h_sl M' - y0)) s m args below meth c z0 y0 (h_sz M') (h_sl M') 5 (MQ below (xQc G r M') args s (h_sz M' - z0) (h_sl M' - y0) (xFr G)) 462 [(0, .inr (.inr (some a0))), (2, .inl v2), (3, .inl v3)] [.inr (.inr sr0)] M := by
  unfold b164_462 at h
  refine xv_b E [.iconst 2] (pc' := 463) (lv' := [(0, .inr (.inr (some a0))), (2, .inl v2), (3, .inl v3)]) (st' := [.inl (2 : Int32), .inr (.inr sr0)]) (by decide +kernel) rfl rfl ?_
  exact xv_w (sb164_463 E B a0 v2 v3 (2 : Int32) sr0 M h hN) rfl
theorem sb164_0 (E : xE G p (xRm 1 (h_sz M' - z0) (h_sl M' - y0)) s m args c prog_14_method_1_code "ZonedFabricModel" z0 y0 (h_sz M') (h_sl M') 5) (B : xB ym164 none meth) (a0 : Nat) (v1 : Int32) (v2 : Int32) (v3 : Int32) (M : hM) {res : xRes} (h : b164_0 a0 v1 v2 v3 M = some res) (hN : xN (pg164 p l e s m args below meth c G z0 y0 r M') r M' res) : xV G p l e (xRm 1 (h_sz M' - z0) (h_sl M' - y0)) s m args below meth c z0 y0 (h_sz M') (h_sl M') 5 (MQ below (xQc G r M') args s (h_sz M' - z0) (h_sl M' - y0) (xFr G)) 0 [(0, .inr (.inr (some a0))), (1, .inl v1), (2, .inl v2), (3, .inl v3)] [] M := by
  unfold b164_0 at h
  refine xv_b E [.aload_n 0] (pc' := 1) (lv' := [(0, .inr (.inr (some a0))), (1, .inl v1), (2, .inl v2), (3, .inl v3)]) (st' := [.inr (.inr (some a0))]) (by decide +kernel) rfl rfl ?_
  refine xv_co E mw920 mw9 mwObj (show decode prog_14_method_1_code 1 = .ok (.invokespecial 1, 3) by decide +kernel) (Nat.le_of_ble_eq_true rfl) ⟨Nat.le_of_ble_eq_true rfl, Nat.le_of_ble_eq_true rfl⟩ ?_
  refine xv_b E [.aload_n 0, .bipush 11] (pc' := 7) (lv' := [(0, .inr (.inr (some a0))), (1, .inl v1), (2, .inl v2), (3, .inl v3)]) (st' := [.inl (11 : Int32), .inr (.inr (some a0))]) (by decide +kernel) rfl rfl ?_
  obtain ⟨M1, h2, h⟩ := bd h
  refine xn_a E 20 h2 mw2 (show decode prog_14_method_1_code 7 = .ok (.newarray .int, 2) by decide +kernel) ?_
  obtain ⟨M3, h4, h⟩ := bd h
  refine xp_r E 12 4 h4 mw865 (show decode prog_14_method_1_code 9 = .ok (.putfield 7, 3) by decide +kernel) (Or.inr ⟨rfl, B.2.2, rfl⟩) ?_
  refine xv_b E [.aload_n 0, .iconst 3] (pc' := 14) (lv' := [(0, .inr (.inr (some a0))), (1, .inl v1), (2, .inl v2), (3, .inl v3)]) (st' := [.inl (3 : Int32), .inr (.inr (some a0))]) (by decide +kernel) rfl rfl ?_
  obtain ⟨M5, h6, h⟩ := bd h
  refine xn_a E 20 h6 mw2 (show decode prog_14_method_1_code 14 = .ok (.newarray .int, 2) by decide +kernel) ?_
  obtain ⟨M7, h8, h⟩ := bd h
  refine xp_r E 12 5 h8 mw866 (show decode prog_14_method_1_code 16 = .ok (.putfield 13, 3) by decide +kernel) (Or.inr ⟨rfl, B.2.2, rfl⟩) ?_
  refine xv_b E [.aload_n 0] (pc' := 20) (lv' := [(0, .inr (.inr (some a0))), (1, .inl v1), (2, .inl v2), (3, .inl v3)]) (st' := [.inr (.inr (some a0))]) (by decide +kernel) rfl rfl ?_
  refine xv_ldc E (144000 : Int32) mw919 (show decode prog_14_method_1_code 20 = .ok (.ldc 16, 2) by decide +kernel) ?_
  obtain ⟨M9, h10, h⟩ := bd h
  refine xn_a E 21 h10 mw47 (show decode prog_14_method_1_code 22 = .ok (.newarray .byte, 2) by decide +kernel) ?_
  obtain ⟨M11, h12, h⟩ := bd h
  refine xp_r E 12 6 h12 mw867 (show decode prog_14_method_1_code 24 = .ok (.putfield 17, 3) by decide +kernel) (Or.inr ⟨rfl, B.2.2, rfl⟩) ?_
  refine xv_b E [.aload_n 0, .sipush 1800] (pc' := 31) (lv' := [(0, .inr (.inr (some a0))), (1, .inl v1), (2, .inl v2), (3, .inl v3)]) (st' := [.inl (1800 : Int32), .inr (.inr (some a0))]) (by decide +kernel) rfl rfl ?_
  obtain ⟨M13, h14, h⟩ := bd h
  refine xn_a E 20 h14 mw2 (show decode prog_14_method_1_code 31 = .ok (.newarray .int, 2) by decide +kernel) ?_
  obtain ⟨M15, h16, h⟩ := bd h
  refine xp_r E 12 7 h16 mw868 (show decode prog_14_method_1_code 33 = .ok (.putfield 21, 3) by decide +kernel) (Or.inr ⟨rfl, B.2.2, rfl⟩) ?_
  refine xv_b E [.aload_n 0, .sipush 1800] (pc' := 40) (lv' := [(0, .inr (.inr (some a0))), (1, .inl v1), (2, .inl v2), (3, .inl v3)]) (st' := [.inl (1800 : Int32), .inr (.inr (some a0))]) (by decide +kernel) rfl rfl ?_
  obtain ⟨M17, h18, h⟩ := bd h
  refine xn_a E 20 h18 mw2 (show decode prog_14_method_1_code 40 = .ok (.newarray .int, 2) by decide +kernel) ?_
  obtain ⟨M19, h20, h⟩ := bd h
  refine xp_r E 12 8 h20 mw869 (show decode prog_14_method_1_code 42 = .ok (.putfield 24, 3) by decide +kernel) (Or.inr ⟨rfl, B.2.2, rfl⟩) ?_
  refine xv_b E [.aload_n 0, .bipush 32] (pc' := 48) (lv' := [(0, .inr (.inr (some a0))), (1, .inl v1), (2, .inl v2), (3, .inl v3)]) (st' := [.inl (32 : Int32), .inr (.inr (some a0))]) (by decide +kernel) rfl rfl ?_
  obtain ⟨M21, h22, h⟩ := bd h
  refine xn_a E 20 h22 mw2 (show decode prog_14_method_1_code 48 = .ok (.newarray .int, 2) by decide +kernel) ?_
  obtain ⟨M23, h24, h⟩ := bd h
  refine xp_r E 12 10 h24 mw870 (show decode prog_14_method_1_code 50 = .ok (.putfield 27, 3) by decide +kernel) (Or.inr ⟨rfl, B.2.2, rfl⟩) ?_
  refine xv_b E [.aload_n 0, .bipush 16] (pc' := 56) (lv' := [(0, .inr (.inr (some a0))), (1, .inl v1), (2, .inl v2), (3, .inl v3)]) (st' := [.inl (16 : Int32), .inr (.inr (some a0))]) (by decide +kernel) rfl rfl ?_
  obtain ⟨M25, h26, h⟩ := bd h
  refine xn_a E 20 h26 mw2 (show decode prog_14_method_1_code 56 = .ok (.newarray .int, 2) by decide +kernel) ?_
  obtain ⟨M27, h28, h⟩ := bd h
  refine xp_r E 12 11 h28 mw871 (show decode prog_14_method_1_code 58 = .ok (.putfield 30, 3) by decide +kernel) (Or.inr ⟨rfl, B.2.2, rfl⟩) ?_
  refine xv_b E [.aload_n 0, .bipush 16] (pc' := 64) (lv' := [(0, .inr (.inr (some a0))), (1, .inl v1), (2, .inl v2), (3, .inl v3)]) (st' := [.inl (16 : Int32), .inr (.inr (some a0))]) (by decide +kernel) rfl rfl ?_
  obtain ⟨M29, h30, h⟩ := bd h
  refine xn_a E 22 h30 mw872 (show decode prog_14_method_1_code 64 = .ok (.newarray .boolean, 2) by decide +kernel) ?_
  obtain ⟨M31, h32, h⟩ := bd h
  refine xp_r E 12 12 h32 mw873 (show decode prog_14_method_1_code 66 = .ok (.putfield 33, 3) by decide +kernel) (Or.inr ⟨rfl, B.2.2, rfl⟩) ?_
  refine xv_b E [.aload_n 0, .bipush 48] (pc' := 72) (lv' := [(0, .inr (.inr (some a0))), (1, .inl v1), (2, .inl v2), (3, .inl v3)]) (st' := [.inl (48 : Int32), .inr (.inr (some a0))]) (by decide +kernel) rfl rfl ?_
  obtain ⟨M33, h34, h⟩ := bd h
  refine xn_a E 20 h34 mw2 (show decode prog_14_method_1_code 72 = .ok (.newarray .int, 2) by decide +kernel) ?_
  obtain ⟨M35, h36, h⟩ := bd h
  refine xp_r E 12 14 h36 mw874 (show decode prog_14_method_1_code 74 = .ok (.putfield 37, 3) by decide +kernel) (Or.inr ⟨rfl, B.2.2, rfl⟩) ?_
  refine xv_b E [.aload_n 0, .bipush 48] (pc' := 80) (lv' := [(0, .inr (.inr (some a0))), (1, .inl v1), (2, .inl v2), (3, .inl v3)]) (st' := [.inl (48 : Int32), .inr (.inr (some a0))]) (by decide +kernel) rfl rfl ?_
  obtain ⟨M37, h38, h⟩ := bd h
  refine xn_a E 20 h38 mw2 (show decode prog_14_method_1_code 80 = .ok (.newarray .int, 2) by decide +kernel) ?_
  obtain ⟨M39, h40, h⟩ := bd h
  refine xp_r E 12 15 h40 mw875 (show decode prog_14_method_1_code 82 = .ok (.putfield 40, 3) by decide +kernel) (Or.inr ⟨rfl, B.2.2, rfl⟩) ?_
  refine xv_b E [.aload_n 0, .sipush 192] (pc' := 89) (lv' := [(0, .inr (.inr (some a0))), (1, .inl v1), (2, .inl v2), (3, .inl v3)]) (st' := [.inl (192 : Int32), .inr (.inr (some a0))]) (by decide +kernel) rfl rfl ?_
  obtain ⟨M41, h42, h⟩ := bd h
  refine xn_a E 20 h42 mw2 (show decode prog_14_method_1_code 89 = .ok (.newarray .int, 2) by decide +kernel) ?_
  obtain ⟨M43, h44, h⟩ := bd h
  refine xp_r E 12 16 h44 mw876 (show decode prog_14_method_1_code 91 = .ok (.putfield 43, 3) by decide +kernel) (Or.inr ⟨rfl, B.2.2, rfl⟩) ?_
  refine xv_b E [.aload_n 0, .bipush 48] (pc' := 97) (lv' := [(0, .inr (.inr (some a0))), (1, .inl v1), (2, .inl v2), (3, .inl v3)]) (st' := [.inl (48 : Int32), .inr (.inr (some a0))]) (by decide +kernel) rfl rfl ?_
  obtain ⟨M45, h46, h⟩ := bd h
  refine xn_a E 20 h46 mw2 (show decode prog_14_method_1_code 97 = .ok (.newarray .int, 2) by decide +kernel) ?_
  obtain ⟨M47, h48, h⟩ := bd h
  refine xp_r E 12 17 h48 mw877 (show decode prog_14_method_1_code 99 = .ok (.putfield 46, 3) by decide +kernel) (Or.inr ⟨rfl, B.2.2, rfl⟩) ?_
  refine xv_b E [.aload_n 0, .sipush 1536] (pc' := 106) (lv' := [(0, .inr (.inr (some a0))), (1, .inl v1), (2, .inl v2), (3, .inl v3)]) (st' := [.inl (1536 : Int32), .inr (.inr (some a0))]) (by decide +kernel) rfl rfl ?_
  obtain ⟨M49, h50, h⟩ := bd h
  refine xn_a E 20 h50 mw2 (show decode prog_14_method_1_code 106 = .ok (.newarray .int, 2) by decide +kernel) ?_
  obtain ⟨M51, h52, h⟩ := bd h
  refine xp_r E 12 18 h52 mw878 (show decode prog_14_method_1_code 108 = .ok (.putfield 49, 3) by decide +kernel) (Or.inr ⟨rfl, B.2.2, rfl⟩) ?_
  refine xv_b E [.aload_n 0, .bipush 48] (pc' := 114) (lv' := [(0, .inr (.inr (some a0))), (1, .inl v1), (2, .inl v2), (3, .inl v3)]) (st' := [.inl (48 : Int32), .inr (.inr (some a0))]) (by decide +kernel) rfl rfl ?_
  obtain ⟨M53, h54, h⟩ := bd h
  refine xn_a E 20 h54 mw2 (show decode prog_14_method_1_code 114 = .ok (.newarray .int, 2) by decide +kernel) ?_
  obtain ⟨M55, h56, h⟩ := bd h
  refine xp_r E 12 19 h56 mw879 (show decode prog_14_method_1_code 116 = .ok (.putfield 52, 3) by decide +kernel) (Or.inr ⟨rfl, B.2.2, rfl⟩) ?_
  refine xv_b E [.aload_n 0, .bipush 48] (pc' := 122) (lv' := [(0, .inr (.inr (some a0))), (1, .inl v1), (2, .inl v2), (3, .inl v3)]) (st' := [.inl (48 : Int32), .inr (.inr (some a0))]) (by decide +kernel) rfl rfl ?_
  obtain ⟨M57, h58, h⟩ := bd h
  refine xn_a E 20 h58 mw2 (show decode prog_14_method_1_code 122 = .ok (.newarray .int, 2) by decide +kernel) ?_
  obtain ⟨M59, h60, h⟩ := bd h
  refine xp_r E 12 20 h60 mw880 (show decode prog_14_method_1_code 124 = .ok (.putfield 55, 3) by decide +kernel) (Or.inr ⟨rfl, B.2.2, rfl⟩) ?_
  refine xv_b E [.aload_n 0, .bipush 48] (pc' := 130) (lv' := [(0, .inr (.inr (some a0))), (1, .inl v1), (2, .inl v2), (3, .inl v3)]) (st' := [.inl (48 : Int32), .inr (.inr (some a0))]) (by decide +kernel) rfl rfl ?_
  obtain ⟨M61, h62, h⟩ := bd h
  refine xn_a E 20 h62 mw2 (show decode prog_14_method_1_code 130 = .ok (.newarray .int, 2) by decide +kernel) ?_
  obtain ⟨M63, h64, h⟩ := bd h
  refine xp_r E 12 21 h64 mw881 (show decode prog_14_method_1_code 132 = .ok (.putfield 58, 3) by decide +kernel) (Or.inr ⟨rfl, B.2.2, rfl⟩) ?_
  refine xv_b E [.aload_n 0, .bipush 48] (pc' := 138) (lv' := [(0, .inr (.inr (some a0))), (1, .inl v1), (2, .inl v2), (3, .inl v3)]) (st' := [.inl (48 : Int32), .inr (.inr (some a0))]) (by decide +kernel) rfl rfl ?_
  obtain ⟨M65, h66, h⟩ := bd h
  refine xn_a E 22 h66 mw872 (show decode prog_14_method_1_code 138 = .ok (.newarray .boolean, 2) by decide +kernel) ?_
  obtain ⟨M67, h68, h⟩ := bd h
  refine xp_r E 12 22 h68 mw882 (show decode prog_14_method_1_code 140 = .ok (.putfield 61, 3) by decide +kernel) (Or.inr ⟨rfl, B.2.2, rfl⟩) ?_
  refine xv_b E [.aload_n 0, .bipush 48] (pc' := 146) (lv' := [(0, .inr (.inr (some a0))), (1, .inl v1), (2, .inl v2), (3, .inl v3)]) (st' := [.inl (48 : Int32), .inr (.inr (some a0))]) (by decide +kernel) rfl rfl ?_
  obtain ⟨M69, h70, h⟩ := bd h
  refine xn_a E 20 h70 mw2 (show decode prog_14_method_1_code 146 = .ok (.newarray .int, 2) by decide +kernel) ?_
  obtain ⟨M71, h72, h⟩ := bd h
  refine xp_r E 12 23 h72 mw883 (show decode prog_14_method_1_code 148 = .ok (.putfield 64, 3) by decide +kernel) (Or.inr ⟨rfl, B.2.2, rfl⟩) ?_
  refine xv_b E [.aload_n 0, .bipush 48] (pc' := 154) (lv' := [(0, .inr (.inr (some a0))), (1, .inl v1), (2, .inl v2), (3, .inl v3)]) (st' := [.inl (48 : Int32), .inr (.inr (some a0))]) (by decide +kernel) rfl rfl ?_
  obtain ⟨M73, h74, h⟩ := bd h
  refine xn_a E 20 h74 mw2 (show decode prog_14_method_1_code 154 = .ok (.newarray .int, 2) by decide +kernel) ?_
  obtain ⟨M75, h76, h⟩ := bd h
  refine xp_r E 12 24 h76 mw884 (show decode prog_14_method_1_code 156 = .ok (.putfield 67, 3) by decide +kernel) (Or.inr ⟨rfl, B.2.2, rfl⟩) ?_
  refine xv_b E [.aload_n 0, .bipush 48] (pc' := 162) (lv' := [(0, .inr (.inr (some a0))), (1, .inl v1), (2, .inl v2), (3, .inl v3)]) (st' := [.inl (48 : Int32), .inr (.inr (some a0))]) (by decide +kernel) rfl rfl ?_
  obtain ⟨M77, h78, h⟩ := bd h
  refine xn_a E 20 h78 mw2 (show decode prog_14_method_1_code 162 = .ok (.newarray .int, 2) by decide +kernel) ?_
  obtain ⟨M79, h80, h⟩ := bd h
  refine xp_r E 12 25 h80 mw885 (show decode prog_14_method_1_code 164 = .ok (.putfield 70, 3) by decide +kernel) (Or.inr ⟨rfl, B.2.2, rfl⟩) ?_
  refine xv_b E [.aload_n 0, .iconst 5] (pc' := 169) (lv' := [(0, .inr (.inr (some a0))), (1, .inl v1), (2, .inl v2), (3, .inl v3)]) (st' := [.inl (5 : Int32), .inr (.inr (some a0))]) (by decide +kernel) rfl rfl ?_
  obtain ⟨M81, h82, h⟩ := bd h
  refine xn_a E 20 h82 mw2 (show decode prog_14_method_1_code 169 = .ok (.newarray .int, 2) by decide +kernel) ?_
  obtain ⟨M83, h84, h⟩ := bd h
  refine xp_r E 12 26 h84 mw886 (show decode prog_14_method_1_code 171 = .ok (.putfield 73, 3) by decide +kernel) (Or.inr ⟨rfl, B.2.2, rfl⟩) ?_
  refine xv_b E [.aload_n 0, .bipush 25] (pc' := 177) (lv' := [(0, .inr (.inr (some a0))), (1, .inl v1), (2, .inl v2), (3, .inl v3)]) (st' := [.inl (25 : Int32), .inr (.inr (some a0))]) (by decide +kernel) rfl rfl ?_
  obtain ⟨M85, h86, h⟩ := bd h
  refine xn_a E 22 h86 mw872 (show decode prog_14_method_1_code 177 = .ok (.newarray .boolean, 2) by decide +kernel) ?_
  obtain ⟨M87, h88, h⟩ := bd h
  refine xp_r E 12 27 h88 mw887 (show decode prog_14_method_1_code 179 = .ok (.putfield 76, 3) by decide +kernel) (Or.inr ⟨rfl, B.2.2, rfl⟩) ?_
  refine xv_b E [.aload_n 0, .bipush 25] (pc' := 185) (lv' := [(0, .inr (.inr (some a0))), (1, .inl v1), (2, .inl v2), (3, .inl v3)]) (st' := [.inl (25 : Int32), .inr (.inr (some a0))]) (by decide +kernel) rfl rfl ?_
  obtain ⟨M89, h90, h⟩ := bd h
  refine xn_a E 20 h90 mw2 (show decode prog_14_method_1_code 185 = .ok (.newarray .int, 2) by decide +kernel) ?_
  obtain ⟨M91, h92, h⟩ := bd h
  refine xp_r E 12 28 h92 mw888 (show decode prog_14_method_1_code 187 = .ok (.putfield 79, 3) by decide +kernel) (Or.inr ⟨rfl, B.2.2, rfl⟩) ?_
  refine xv_b E [.aload_n 0, .sipush 1600] (pc' := 194) (lv' := [(0, .inr (.inr (some a0))), (1, .inl v1), (2, .inl v2), (3, .inl v3)]) (st' := [.inl (1600 : Int32), .inr (.inr (some a0))]) (by decide +kernel) rfl rfl ?_
  obtain ⟨M93, h94, h⟩ := bd h
  refine xn_a E 20 h94 mw2 (show decode prog_14_method_1_code 194 = .ok (.newarray .int, 2) by decide +kernel) ?_
  obtain ⟨M95, h96, h⟩ := bd h
  refine xp_r E 12 29 h96 mw889 (show decode prog_14_method_1_code 196 = .ok (.putfield 82, 3) by decide +kernel) (Or.inr ⟨rfl, B.2.2, rfl⟩) ?_
  refine xv_b E [.aload_n 0, .bipush 25] (pc' := 202) (lv' := [(0, .inr (.inr (some a0))), (1, .inl v1), (2, .inl v2), (3, .inl v3)]) (st' := [.inl (25 : Int32), .inr (.inr (some a0))]) (by decide +kernel) rfl rfl ?_
  obtain ⟨M97, h98, h⟩ := bd h
  refine xn_a E 20 h98 mw2 (show decode prog_14_method_1_code 202 = .ok (.newarray .int, 2) by decide +kernel) ?_
  obtain ⟨M99, h100, h⟩ := bd h
  refine xp_r E 12 30 h100 mw890 (show decode prog_14_method_1_code 204 = .ok (.putfield 85, 3) by decide +kernel) (Or.inr ⟨rfl, B.2.2, rfl⟩) ?_
  refine xv_b E [.aload_n 0, .bipush 64] (pc' := 210) (lv' := [(0, .inr (.inr (some a0))), (1, .inl v1), (2, .inl v2), (3, .inl v3)]) (st' := [.inl (64 : Int32), .inr (.inr (some a0))]) (by decide +kernel) rfl rfl ?_
  obtain ⟨M101, h102, h⟩ := bd h
  refine xn_a E 20 h102 mw2 (show decode prog_14_method_1_code 210 = .ok (.newarray .int, 2) by decide +kernel) ?_
  obtain ⟨M103, h104, h⟩ := bd h
  refine xp_r E 12 31 h104 mw891 (show decode prog_14_method_1_code 212 = .ok (.putfield 88, 3) by decide +kernel) (Or.inr ⟨rfl, B.2.2, rfl⟩) ?_
  refine xv_b E [.aload_n 0, .bipush 25] (pc' := 218) (lv' := [(0, .inr (.inr (some a0))), (1, .inl v1), (2, .inl v2), (3, .inl v3)]) (st' := [.inl (25 : Int32), .inr (.inr (some a0))]) (by decide +kernel) rfl rfl ?_
  obtain ⟨M105, h106, h⟩ := bd h
  refine xn_a E 20 h106 mw2 (show decode prog_14_method_1_code 218 = .ok (.newarray .int, 2) by decide +kernel) ?_
  obtain ⟨M107, h108, h⟩ := bd h
  refine xp_r E 12 32 h108 mw892 (show decode prog_14_method_1_code 220 = .ok (.putfield 91, 3) by decide +kernel) (Or.inr ⟨rfl, B.2.2, rfl⟩) ?_
  refine xv_b E [.aload_n 0, .bipush 8] (pc' := 226) (lv' := [(0, .inr (.inr (some a0))), (1, .inl v1), (2, .inl v2), (3, .inl v3)]) (st' := [.inl (8 : Int32), .inr (.inr (some a0))]) (by decide +kernel) rfl rfl ?_
  obtain ⟨M109, h110, h⟩ := bd h
  refine xn_a E 22 h110 mw872 (show decode prog_14_method_1_code 226 = .ok (.newarray .boolean, 2) by decide +kernel) ?_
  obtain ⟨M111, h112, h⟩ := bd h
  refine xp_r E 12 33 h112 mw893 (show decode prog_14_method_1_code 228 = .ok (.putfield 94, 3) by decide +kernel) (Or.inr ⟨rfl, B.2.2, rfl⟩) ?_
  refine xv_b E [.aload_n 0, .bipush 8] (pc' := 234) (lv' := [(0, .inr (.inr (some a0))), (1, .inl v1), (2, .inl v2), (3, .inl v3)]) (st' := [.inl (8 : Int32), .inr (.inr (some a0))]) (by decide +kernel) rfl rfl ?_
  obtain ⟨M113, h114, h⟩ := bd h
  refine xn_a E 22 h114 mw872 (show decode prog_14_method_1_code 234 = .ok (.newarray .boolean, 2) by decide +kernel) ?_
  obtain ⟨M115, h116, h⟩ := bd h
  refine xp_r E 12 34 h116 mw894 (show decode prog_14_method_1_code 236 = .ok (.putfield 97, 3) by decide +kernel) (Or.inr ⟨rfl, B.2.2, rfl⟩) ?_
  refine xv_b E [.aload_n 0, .bipush 8] (pc' := 242) (lv' := [(0, .inr (.inr (some a0))), (1, .inl v1), (2, .inl v2), (3, .inl v3)]) (st' := [.inl (8 : Int32), .inr (.inr (some a0))]) (by decide +kernel) rfl rfl ?_
  obtain ⟨M117, h118, h⟩ := bd h
  refine xn_a E 20 h118 mw2 (show decode prog_14_method_1_code 242 = .ok (.newarray .int, 2) by decide +kernel) ?_
  obtain ⟨M119, h120, h⟩ := bd h
  refine xp_r E 12 35 h120 mw895 (show decode prog_14_method_1_code 244 = .ok (.putfield 100, 3) by decide +kernel) (Or.inr ⟨rfl, B.2.2, rfl⟩) ?_
  refine xv_b E [.aload_n 0, .bipush 8] (pc' := 250) (lv' := [(0, .inr (.inr (some a0))), (1, .inl v1), (2, .inl v2), (3, .inl v3)]) (st' := [.inl (8 : Int32), .inr (.inr (some a0))]) (by decide +kernel) rfl rfl ?_
  obtain ⟨M121, h122, h⟩ := bd h
  refine xn_a E 20 h122 mw2 (show decode prog_14_method_1_code 250 = .ok (.newarray .int, 2) by decide +kernel) ?_
  obtain ⟨M123, h124, h⟩ := bd h
  refine xp_r E 12 36 h124 mw896 (show decode prog_14_method_1_code 252 = .ok (.putfield 103, 3) by decide +kernel) (Or.inr ⟨rfl, B.2.2, rfl⟩) ?_
  refine xv_b E [.aload_n 0, .bipush 8] (pc' := 258) (lv' := [(0, .inr (.inr (some a0))), (1, .inl v1), (2, .inl v2), (3, .inl v3)]) (st' := [.inl (8 : Int32), .inr (.inr (some a0))]) (by decide +kernel) rfl rfl ?_
  obtain ⟨M125, h126, h⟩ := bd h
  refine xn_a E 20 h126 mw2 (show decode prog_14_method_1_code 258 = .ok (.newarray .int, 2) by decide +kernel) ?_
  obtain ⟨M127, h128, h⟩ := bd h
  refine xp_r E 12 37 h128 mw897 (show decode prog_14_method_1_code 260 = .ok (.putfield 106, 3) by decide +kernel) (Or.inr ⟨rfl, B.2.2, rfl⟩) ?_
  refine xv_b E [.aload_n 0, .bipush 64] (pc' := 266) (lv' := [(0, .inr (.inr (some a0))), (1, .inl v1), (2, .inl v2), (3, .inl v3)]) (st' := [.inl (64 : Int32), .inr (.inr (some a0))]) (by decide +kernel) rfl rfl ?_
  obtain ⟨M129, h130, h⟩ := bd h
  refine xn_a E 20 h130 mw2 (show decode prog_14_method_1_code 266 = .ok (.newarray .int, 2) by decide +kernel) ?_
  obtain ⟨M131, h132, h⟩ := bd h
  refine xp_r E 12 39 h132 mw898 (show decode prog_14_method_1_code 268 = .ok (.putfield 109, 3) by decide +kernel) (Or.inr ⟨rfl, B.2.2, rfl⟩) ?_
  refine xv_b E [.aload_n 0, .bipush 64] (pc' := 274) (lv' := [(0, .inr (.inr (some a0))), (1, .inl v1), (2, .inl v2), (3, .inl v3)]) (st' := [.inl (64 : Int32), .inr (.inr (some a0))]) (by decide +kernel) rfl rfl ?_
  obtain ⟨M133, h134, h⟩ := bd h
  refine xn_a E 20 h134 mw2 (show decode prog_14_method_1_code 274 = .ok (.newarray .int, 2) by decide +kernel) ?_
  obtain ⟨M135, h136, h⟩ := bd h
  refine xp_r E 12 40 h136 mw899 (show decode prog_14_method_1_code 276 = .ok (.putfield 112, 3) by decide +kernel) (Or.inr ⟨rfl, B.2.2, rfl⟩) ?_
  refine xv_b E [.aload_n 0, .bipush 8] (pc' := 282) (lv' := [(0, .inr (.inr (some a0))), (1, .inl v1), (2, .inl v2), (3, .inl v3)]) (st' := [.inl (8 : Int32), .inr (.inr (some a0))]) (by decide +kernel) rfl rfl ?_
  obtain ⟨M137, h138, h⟩ := bd h
  refine xn_a E 20 h138 mw2 (show decode prog_14_method_1_code 282 = .ok (.newarray .int, 2) by decide +kernel) ?_
  obtain ⟨M139, h140, h⟩ := bd h
  refine xp_r E 12 41 h140 mw900 (show decode prog_14_method_1_code 284 = .ok (.putfield 115, 3) by decide +kernel) (Or.inr ⟨rfl, B.2.2, rfl⟩) ?_
  refine xv_b E [.aload_n 0, .sipush 256] (pc' := 291) (lv' := [(0, .inr (.inr (some a0))), (1, .inl v1), (2, .inl v2), (3, .inl v3)]) (st' := [.inl (256 : Int32), .inr (.inr (some a0))]) (by decide +kernel) rfl rfl ?_
  obtain ⟨M141, h142, h⟩ := bd h
  refine xn_a E 23 h142 mw101 (show decode prog_14_method_1_code 291 = .ok (.newarray .long, 2) by decide +kernel) ?_
  obtain ⟨M143, h144, h⟩ := bd h
  refine xp_r E 12 42 h144 mw901 (show decode prog_14_method_1_code 293 = .ok (.putfield 118, 3) by decide +kernel) (Or.inr ⟨rfl, B.2.2, rfl⟩) ?_
  refine xv_b E [.aload_n 0, .bipush 8] (pc' := 299) (lv' := [(0, .inr (.inr (some a0))), (1, .inl v1), (2, .inl v2), (3, .inl v3)]) (st' := [.inl (8 : Int32), .inr (.inr (some a0))]) (by decide +kernel) rfl rfl ?_
  obtain ⟨M145, h146, h⟩ := bd h
  refine xn_a E 20 h146 mw2 (show decode prog_14_method_1_code 299 = .ok (.newarray .int, 2) by decide +kernel) ?_
  obtain ⟨M147, h148, h⟩ := bd h
  refine xp_r E 12 43 h148 mw902 (show decode prog_14_method_1_code 301 = .ok (.putfield 122, 3) by decide +kernel) (Or.inr ⟨rfl, B.2.2, rfl⟩) ?_
  refine xv_b E [.aload_n 0, .sipush 384] (pc' := 308) (lv' := [(0, .inr (.inr (some a0))), (1, .inl v1), (2, .inl v2), (3, .inl v3)]) (st' := [.inl (384 : Int32), .inr (.inr (some a0))]) (by decide +kernel) rfl rfl ?_
  obtain ⟨M149, h150, h⟩ := bd h
  refine xn_a E 20 h150 mw2 (show decode prog_14_method_1_code 308 = .ok (.newarray .int, 2) by decide +kernel) ?_
  obtain ⟨M151, h152, h⟩ := bd h
  refine xp_r E 12 44 h152 mw903 (show decode prog_14_method_1_code 310 = .ok (.putfield 125, 3) by decide +kernel) (Or.inr ⟨rfl, B.2.2, rfl⟩) ?_
  refine xv_b E [.aload_n 0, .sipush 192] (pc' := 317) (lv' := [(0, .inr (.inr (some a0))), (1, .inl v1), (2, .inl v2), (3, .inl v3)]) (st' := [.inl (192 : Int32), .inr (.inr (some a0))]) (by decide +kernel) rfl rfl ?_
  obtain ⟨M153, h154, h⟩ := bd h
  refine xn_a E 23 h154 mw101 (show decode prog_14_method_1_code 317 = .ok (.newarray .long, 2) by decide +kernel) ?_
  obtain ⟨M155, h156, h⟩ := bd h
  refine xp_r E 12 45 h156 mw904 (show decode prog_14_method_1_code 319 = .ok (.putfield 128, 3) by decide +kernel) (Or.inr ⟨rfl, B.2.2, rfl⟩) ?_
  refine xv_b E [.aload_n 0, .bipush 8] (pc' := 325) (lv' := [(0, .inr (.inr (some a0))), (1, .inl v1), (2, .inl v2), (3, .inl v3)]) (st' := [.inl (8 : Int32), .inr (.inr (some a0))]) (by decide +kernel) rfl rfl ?_
  obtain ⟨M157, h158, h⟩ := bd h
  refine xn_a E 20 h158 mw2 (show decode prog_14_method_1_code 325 = .ok (.newarray .int, 2) by decide +kernel) ?_
  obtain ⟨M159, h160, h⟩ := bd h
  refine xp_r E 12 46 h160 mw905 (show decode prog_14_method_1_code 327 = .ok (.putfield 131, 3) by decide +kernel) (Or.inr ⟨rfl, B.2.2, rfl⟩) ?_
  refine xv_b E [.aload_n 0, .sipush 300] (pc' := 334) (lv' := [(0, .inr (.inr (some a0))), (1, .inl v1), (2, .inl v2), (3, .inl v3)]) (st' := [.inl (300 : Int32), .inr (.inr (some a0))]) (by decide +kernel) rfl rfl ?_
  obtain ⟨M161, h162, h⟩ := bd h
  refine xn_a E 20 h162 mw2 (show decode prog_14_method_1_code 334 = .ok (.newarray .int, 2) by decide +kernel) ?_
  obtain ⟨M163, h164, h⟩ := bd h
  refine xp_r E 12 48 h164 mw906 (show decode prog_14_method_1_code 336 = .ok (.putfield 134, 3) by decide +kernel) (Or.inr ⟨rfl, B.2.2, rfl⟩) ?_
  refine xv_b E [.aload_n 0, .sipush 300] (pc' := 343) (lv' := [(0, .inr (.inr (some a0))), (1, .inl v1), (2, .inl v2), (3, .inl v3)]) (st' := [.inl (300 : Int32), .inr (.inr (some a0))]) (by decide +kernel) rfl rfl ?_
  obtain ⟨M165, h166, h⟩ := bd h
  refine xn_a E 20 h166 mw2 (show decode prog_14_method_1_code 343 = .ok (.newarray .int, 2) by decide +kernel) ?_
  obtain ⟨M167, h168, h⟩ := bd h
  refine xp_r E 12 49 h168 mw907 (show decode prog_14_method_1_code 345 = .ok (.putfield 137, 3) by decide +kernel) (Or.inr ⟨rfl, B.2.2, rfl⟩) ?_
  refine xv_b E [.aload_n 0, .sipush 300] (pc' := 352) (lv' := [(0, .inr (.inr (some a0))), (1, .inl v1), (2, .inl v2), (3, .inl v3)]) (st' := [.inl (300 : Int32), .inr (.inr (some a0))]) (by decide +kernel) rfl rfl ?_
  obtain ⟨M169, h170, h⟩ := bd h
  refine xn_a E 22 h170 mw872 (show decode prog_14_method_1_code 352 = .ok (.newarray .boolean, 2) by decide +kernel) ?_
  obtain ⟨M171, h172, h⟩ := bd h
  refine xp_r E 12 50 h172 mw908 (show decode prog_14_method_1_code 354 = .ok (.putfield 140, 3) by decide +kernel) (Or.inr ⟨rfl, B.2.2, rfl⟩) ?_
  refine xv_b E [.aload_n 0, .sipush 300] (pc' := 361) (lv' := [(0, .inr (.inr (some a0))), (1, .inl v1), (2, .inl v2), (3, .inl v3)]) (st' := [.inl (300 : Int32), .inr (.inr (some a0))]) (by decide +kernel) rfl rfl ?_
  obtain ⟨M173, h174, h⟩ := bd h
  refine xn_a E 20 h174 mw2 (show decode prog_14_method_1_code 361 = .ok (.newarray .int, 2) by decide +kernel) ?_
  obtain ⟨M175, h176, h⟩ := bd h
  refine xp_r E 12 51 h176 mw909 (show decode prog_14_method_1_code 363 = .ok (.putfield 143, 3) by decide +kernel) (Or.inr ⟨rfl, B.2.2, rfl⟩) ?_
  refine xv_b E [.aload_n 0, .sipush 300] (pc' := 370) (lv' := [(0, .inr (.inr (some a0))), (1, .inl v1), (2, .inl v2), (3, .inl v3)]) (st' := [.inl (300 : Int32), .inr (.inr (some a0))]) (by decide +kernel) rfl rfl ?_
  obtain ⟨M177, h178, h⟩ := bd h
  refine xn_a E 20 h178 mw2 (show decode prog_14_method_1_code 370 = .ok (.newarray .int, 2) by decide +kernel) ?_
  obtain ⟨M179, h180, h⟩ := bd h
  refine xp_r E 12 52 h180 mw910 (show decode prog_14_method_1_code 372 = .ok (.putfield 146, 3) by decide +kernel) (Or.inr ⟨rfl, B.2.2, rfl⟩) ?_
  refine xv_b E [.aload_n 0, .sipush 300] (pc' := 379) (lv' := [(0, .inr (.inr (some a0))), (1, .inl v1), (2, .inl v2), (3, .inl v3)]) (st' := [.inl (300 : Int32), .inr (.inr (some a0))]) (by decide +kernel) rfl rfl ?_
  obtain ⟨M181, h182, h⟩ := bd h
  refine xn_a E 20 h182 mw2 (show decode prog_14_method_1_code 379 = .ok (.newarray .int, 2) by decide +kernel) ?_
  obtain ⟨M183, h184, h⟩ := bd h
  refine xp_r E 12 53 h184 mw911 (show decode prog_14_method_1_code 381 = .ok (.putfield 149, 3) by decide +kernel) (Or.inr ⟨rfl, B.2.2, rfl⟩) ?_
  refine xv_b E [.aload_n 0, .sipush 1200] (pc' := 388) (lv' := [(0, .inr (.inr (some a0))), (1, .inl v1), (2, .inl v2), (3, .inl v3)]) (st' := [.inl (1200 : Int32), .inr (.inr (some a0))]) (by decide +kernel) rfl rfl ?_
  obtain ⟨M185, h186, h⟩ := bd h
  refine xn_a E 23 h186 mw101 (show decode prog_14_method_1_code 388 = .ok (.newarray .long, 2) by decide +kernel) ?_
  obtain ⟨M187, h188, h⟩ := bd h
  refine xp_r E 12 54 h188 mw912 (show decode prog_14_method_1_code 390 = .ok (.putfield 152, 3) by decide +kernel) (Or.inr ⟨rfl, B.2.2, rfl⟩) ?_
  refine xv_b E [.aload_n 0, .sipush 300] (pc' := 397) (lv' := [(0, .inr (.inr (some a0))), (1, .inl v1), (2, .inl v2), (3, .inl v3)]) (st' := [.inl (300 : Int32), .inr (.inr (some a0))]) (by decide +kernel) rfl rfl ?_
  obtain ⟨M189, h190, h⟩ := bd h
  refine xn_a E 20 h190 mw2 (show decode prog_14_method_1_code 397 = .ok (.newarray .int, 2) by decide +kernel) ?_
  obtain ⟨M191, h192, h⟩ := bd h
  refine xp_r E 12 55 h192 mw913 (show decode prog_14_method_1_code 399 = .ok (.putfield 155, 3) by decide +kernel) (Or.inr ⟨rfl, B.2.2, rfl⟩) ?_
  refine xv_b E [.aload_n 0, .sipush 300] (pc' := 406) (lv' := [(0, .inr (.inr (some a0))), (1, .inl v1), (2, .inl v2), (3, .inl v3)]) (st' := [.inl (300 : Int32), .inr (.inr (some a0))]) (by decide +kernel) rfl rfl ?_
  obtain ⟨M193, h194, h⟩ := bd h
  refine xn_a E 20 h194 mw2 (show decode prog_14_method_1_code 406 = .ok (.newarray .int, 2) by decide +kernel) ?_
  obtain ⟨M195, h196, h⟩ := bd h
  refine xp_r E 12 56 h196 mw914 (show decode prog_14_method_1_code 408 = .ok (.putfield 158, 3) by decide +kernel) (Or.inr ⟨rfl, B.2.2, rfl⟩) ?_
  refine xv_b E [.aload_n 0, .sipush 300] (pc' := 415) (lv' := [(0, .inr (.inr (some a0))), (1, .inl v1), (2, .inl v2), (3, .inl v3)]) (st' := [.inl (300 : Int32), .inr (.inr (some a0))]) (by decide +kernel) rfl rfl ?_
  obtain ⟨M197, h198, h⟩ := bd h
  refine xn_a E 20 h198 mw2 (show decode prog_14_method_1_code 415 = .ok (.newarray .int, 2) by decide +kernel) ?_
  obtain ⟨M199, h200, h⟩ := bd h
  refine xp_r E 12 57 h200 mw915 (show decode prog_14_method_1_code 417 = .ok (.putfield 161, 3) by decide +kernel) (Or.inr ⟨rfl, B.2.2, rfl⟩) ?_
  refine xv_b E [.aload_n 0, .sipush 300] (pc' := 424) (lv' := [(0, .inr (.inr (some a0))), (1, .inl v1), (2, .inl v2), (3, .inl v3)]) (st' := [.inl (300 : Int32), .inr (.inr (some a0))]) (by decide +kernel) rfl rfl ?_
  obtain ⟨M201, h202, h⟩ := bd h
  refine xn_a E 20 h202 mw2 (show decode prog_14_method_1_code 424 = .ok (.newarray .int, 2) by decide +kernel) ?_
  obtain ⟨M203, h204, h⟩ := bd h
  refine xp_r E 12 58 h204 mw916 (show decode prog_14_method_1_code 426 = .ok (.putfield 164, 3) by decide +kernel) (Or.inr ⟨rfl, B.2.2, rfl⟩) ?_
  refine xv_b E [.aload_n 0, .sipush 300] (pc' := 433) (lv' := [(0, .inr (.inr (some a0))), (1, .inl v1), (2, .inl v2), (3, .inl v3)]) (st' := [.inl (300 : Int32), .inr (.inr (some a0))]) (by decide +kernel) rfl rfl ?_
  obtain ⟨M205, h206, h⟩ := bd h
  refine xn_a E 20 h206 mw2 (show decode prog_14_method_1_code 433 = .ok (.newarray .int, 2) by decide +kernel) ?_
  obtain ⟨M207, h208, h⟩ := bd h
  refine xp_r E 12 59 h208 mw917 (show decode prog_14_method_1_code 435 = .ok (.putfield 167, 3) by decide +kernel) (Or.inr ⟨rfl, B.2.2, rfl⟩) ?_
  refine xv_b E [.aload_n 0, .sipush 300] (pc' := 442) (lv' := [(0, .inr (.inr (some a0))), (1, .inl v1), (2, .inl v2), (3, .inl v3)]) (st' := [.inl (300 : Int32), .inr (.inr (some a0))]) (by decide +kernel) rfl rfl ?_
  obtain ⟨M209, h210, h⟩ := bd h
  refine xn_a E 20 h210 mw2 (show decode prog_14_method_1_code 442 = .ok (.newarray .int, 2) by decide +kernel) ?_
  obtain ⟨M211, h212, h⟩ := bd h
  refine xp_r E 12 60 h212 mw918 (show decode prog_14_method_1_code 444 = .ok (.putfield 170, 3) by decide +kernel) (Or.inr ⟨rfl, B.2.2, rfl⟩) ?_
  refine xv_b E [.aload_n 0, .iload_n 1, .iconst 1] (pc' := 450) (lv' := [(0, .inr (.inr (some a0))), (1, .inl v1), (2, .inl v2), (3, .inl v3)]) (st' := [.inl (1 : Int32), .inl v1, .inr (.inr (some a0))]) (by decide +kernel) rfl rfl ?_
  by_cases q214 : v1 < (1 : Int32)
  · rw [if_pos q214] at h
    refine xv_icmp_lt E 462 (show decode prog_14_method_1_code 450 = .ok (.if_icmp .lt (12), 3) by decide +kernel) rfl (fun _ => ?_) (fun z => absurd q214 z)
    exact xv_w (sb164_462 E B a0 v2 v3 (some a0) M211 h hN) rfl
  · rw [if_neg q214] at h
    refine xv_icmp_lt E 462 (show decode prog_14_method_1_code 450 = .ok (.if_icmp .lt (12), 3) by decide +kernel) rfl (fun z => absurd z q214) (fun _ => ?_)
    refine xv_b E [.iload_n 1, .iconst 5] (pc' := 455) (lv' := [(0, .inr (.inr (some a0))), (1, .inl v1), (2, .inl v2), (3, .inl v3)]) (st' := [.inl (5 : Int32), .inl v1, .inr (.inr (some a0))]) (by decide +kernel) rfl rfl ?_
    by_cases q213 : (5 : Int32) < v1
    · rw [if_pos q213] at h
      refine xv_icmp_gt E 462 (show decode prog_14_method_1_code 455 = .ok (.if_icmp .gt (7), 3) by decide +kernel) rfl (fun _ => ?_) (fun z => absurd q213 z)
      exact xv_w (sb164_462 E B a0 v2 v3 (some a0) M211 h hN) rfl
    · rw [if_neg q213] at h
      refine xv_icmp_gt E 462 (show decode prog_14_method_1_code 455 = .ok (.if_icmp .gt (7), 3) by decide +kernel) rfl (fun z => absurd z q213) (fun _ => ?_)
      refine xv_b E [.iload_n 1] (pc' := 459) (lv' := [(0, .inr (.inr (some a0))), (1, .inl v1), (2, .inl v2), (3, .inl v3)]) (st' := [.inl v1, .inr (.inr (some a0))]) (by decide +kernel) rfl rfl ?_
      refine xv_goto E 463 (show decode prog_14_method_1_code 459 = .ok (.goto (4), 3) by decide +kernel) rfl ?_
      exact xv_w (sb164_463 E B a0 v2 v3 v1 (some a0) M211 h hN) rfl
theorem sb164_508 (E : xE G p (xRm 1 (h_sz M' - z0) (h_sl M' - y0)) s m args c prog_14_method_1_code "ZonedFabricModel" z0 y0 (h_sz M') (h_sl M') 5) (B : xB ym164 none meth) (a0 : Nat) (v4 : Int32) (M : hM) {res : xRes} (h : b164_508 a0 v4 M = some res) (hN : xN (pg164 p l e s m args below meth c G z0 y0 r M') r M' res) : xV G p l e (xRm 1 (h_sz M' - z0) (h_sl M' - y0)) s m args below meth c z0 y0 (h_sz M') (h_sl M') 5 (MQ below (xQc G r M') args s (h_sz M' - z0) (h_sl M' - y0) (xFr G)) 508 [(0, .inr (.inr (some a0))), (4, .inl v4)] [] M := by
  unfold b164_508 at h
  refine xv_b E [.iload 4, .bipush 48] (pc' := 512) (lv' := [(0, .inr (.inr (some a0))), (4, .inl v4)]) (st' := [.inl (48 : Int32), .inl v4]) (by decide +kernel) rfl rfl ?_
  by_cases q237 : (48 : Int32) ≤ v4
  · rw [if_pos q237] at h
    refine xv_icmp_ge E 545 (show decode prog_14_method_1_code 512 = .ok (.if_icmp .ge (33), 3) by decide +kernel) rfl (fun _ => ?_) (fun z => absurd q237 z)
    refine xv_b E [.iconst 0, .istore 4] (pc' := 548) (lv' := [(4, .inl (0 : Int32)), (0, .inr (.inr (some a0)))]) (st' := []) (by decide +kernel) rfl rfl ?_
    obtain rfl := Option.some.inj h
    exact xv_w hN rfl
  · rw [if_neg q237] at h
    refine xv_icmp_ge E 545 (show decode prog_14_method_1_code 512 = .ok (.if_icmp .ge (33), 3) by decide +kernel) rfl (fun z => absurd z q237) (fun _ => ?_)
    refine xv_b E [.aload_n 0] (pc' := 516) (lv' := [(0, .inr (.inr (some a0))), (4, .inl v4)]) (st' := [.inr (.inr (some a0))]) (by decide +kernel) rfl rfl ?_
    obtain ⟨o_225, h226, h⟩ := bd h
    refine xg_r E 12 14 h226 mw874 (show decode prog_14_method_1_code 516 = .ok (.getfield 37, 3) by decide +kernel) ?_
    refine xv_b E [.iload 4, .iconst (-1)] (pc' := 522) (lv' := [(0, .inr (.inr (some a0))), (4, .inl v4)]) (st' := [.inl (-1 : Int32), .inl v4, .inr (.inr o_225)]) (by decide +kernel) rfl rfl ?_
    obtain ⟨M227, h228, h⟩ := bd h
    refine xs_i E h228 (show decode prog_14_method_1_code 522 = .ok (.iastore, 1) by decide +kernel) ?_
    refine xv_b E [.aload_n 0] (pc' := 524) (lv' := [(0, .inr (.inr (some a0))), (4, .inl v4)]) (st' := [.inr (.inr (some a0))]) (by decide +kernel) rfl rfl ?_
    obtain ⟨o_229, h230, h⟩ := bd h
    refine xg_r E 12 15 h230 mw875 (show decode prog_14_method_1_code 524 = .ok (.getfield 40, 3) by decide +kernel) ?_
    refine xv_b E [.iload 4, .iconst (-1)] (pc' := 530) (lv' := [(0, .inr (.inr (some a0))), (4, .inl v4)]) (st' := [.inl (-1 : Int32), .inl v4, .inr (.inr o_229)]) (by decide +kernel) rfl rfl ?_
    obtain ⟨M231, h232, h⟩ := bd h
    refine xs_i E h232 (show decode prog_14_method_1_code 530 = .ok (.iastore, 1) by decide +kernel) ?_
    refine xv_b E [.aload_n 0] (pc' := 532) (lv' := [(0, .inr (.inr (some a0))), (4, .inl v4)]) (st' := [.inr (.inr (some a0))]) (by decide +kernel) rfl rfl ?_
    obtain ⟨o_233, h234, h⟩ := bd h
    refine xg_r E 12 23 h234 mw883 (show decode prog_14_method_1_code 532 = .ok (.getfield 64, 3) by decide +kernel) ?_
    refine xv_b E [.iload 4, .iconst (-1)] (pc' := 538) (lv' := [(0, .inr (.inr (some a0))), (4, .inl v4)]) (st' := [.inl (-1 : Int32), .inl v4, .inr (.inr o_233)]) (by decide +kernel) rfl rfl ?_
    obtain ⟨M235, h236, h⟩ := bd h
    refine xs_i E h236 (show decode prog_14_method_1_code 538 = .ok (.iastore, 1) by decide +kernel) ?_
    refine xv_b E [.iinc 4 1] (pc' := 542) (lv' := [(4, .inl (v4 + (1 : Int32))), (0, .inr (.inr (some a0)))]) (st' := []) (by decide +kernel) rfl rfl ?_
    refine xv_goto E 508 (show decode prog_14_method_1_code 542 = .ok (.goto (-34), 3) by decide +kernel) rfl ?_
    obtain rfl := Option.some.inj h
    exact xv_w hN rfl
theorem sb164_548 (E : xE G p (xRm 1 (h_sz M' - z0) (h_sl M' - y0)) s m args c prog_14_method_1_code "ZonedFabricModel" z0 y0 (h_sz M') (h_sl M') 5) (B : xB ym164 none meth) (a0 : Nat) (v4 : Int32) (M : hM) {res : xRes} (h : b164_548 a0 v4 M = some res) (hN : xN (pg164 p l e s m args below meth c G z0 y0 r M') r M' res) : xV G p l e (xRm 1 (h_sz M' - z0) (h_sl M' - y0)) s m args below meth c z0 y0 (h_sz M') (h_sl M') 5 (MQ below (xQc G r M') args s (h_sz M' - z0) (h_sl M' - y0) (xFr G)) 548 [(0, .inr (.inr (some a0))), (4, .inl v4)] [] M := by
  unfold b164_548 at h
  refine xv_b E [.iload 4, .iconst 5] (pc' := 551) (lv' := [(0, .inr (.inr (some a0))), (4, .inl v4)]) (st' := [.inl (5 : Int32), .inl v4]) (by decide +kernel) rfl rfl ?_
  by_cases q242 : (5 : Int32) ≤ v4
  · rw [if_pos q242] at h
    refine xv_icmp_ge E 571 (show decode prog_14_method_1_code 551 = .ok (.if_icmp .ge (20), 3) by decide +kernel) rfl (fun _ => ?_) (fun z => absurd q242 z)
    refine xv_b E [.iconst 0, .istore 4] (pc' := 574) (lv' := [(4, .inl (0 : Int32)), (0, .inr (.inr (some a0)))]) (st' := []) (by decide +kernel) rfl rfl ?_
    obtain rfl := Option.some.inj h
    exact xv_w hN rfl
  · rw [if_neg q242] at h
    refine xv_icmp_ge E 571 (show decode prog_14_method_1_code 551 = .ok (.if_icmp .ge (20), 3) by decide +kernel) rfl (fun z => absurd z q242) (fun _ => ?_)
    refine xv_b E [.aload_n 0] (pc' := 555) (lv' := [(0, .inr (.inr (some a0))), (4, .inl v4)]) (st' := [.inr (.inr (some a0))]) (by decide +kernel) rfl rfl ?_
    obtain ⟨o_238, h239, h⟩ := bd h
    refine xg_r E 12 26 h239 mw886 (show decode prog_14_method_1_code 555 = .ok (.getfield 73, 3) by decide +kernel) ?_
    refine xv_b E [.iload 4, .iload 4, .iconst 1, .iadd] (pc' := 564) (lv' := [(0, .inr (.inr (some a0))), (4, .inl v4)]) (st' := [.inl (v4 + (1 : Int32)), .inl v4, .inr (.inr o_238)]) (by decide +kernel) rfl rfl ?_
    obtain ⟨M240, h241, h⟩ := bd h
    refine xs_i E h241 (show decode prog_14_method_1_code 564 = .ok (.iastore, 1) by decide +kernel) ?_
    refine xv_b E [.iinc 4 1] (pc' := 568) (lv' := [(4, .inl (v4 + (1 : Int32))), (0, .inr (.inr (some a0)))]) (st' := []) (by decide +kernel) rfl rfl ?_
    refine xv_goto E 548 (show decode prog_14_method_1_code 568 = .ok (.goto (-20), 3) by decide +kernel) rfl ?_
    obtain rfl := Option.some.inj h
    exact xv_w hN rfl
theorem sb164_574 (E : xE G p (xRm 1 (h_sz M' - z0) (h_sl M' - y0)) s m args c prog_14_method_1_code "ZonedFabricModel" z0 y0 (h_sz M') (h_sl M') 5) (B : xB ym164 none meth) (a0 : Nat) (v4 : Int32) (M : hM) {res : xRes} (h : b164_574 a0 v4 M = some res) (hN : xN (pg164 p l e s m args below meth c G z0 y0 r M') r M' res) : xV G p l e (xRm 1 (h_sz M' - z0) (h_sl M' - y0)) s m args below meth c z0 y0 (h_sz M') (h_sl M') 5 (MQ below (xQc G r M') args s (h_sz M' - z0) (h_sl M' - y0) (xFr G)) 574 [(0, .inr (.inr (some a0))), (4, .inl v4)] [] M := by
  unfold b164_574 at h
  refine xv_b E [.iload 4, .sipush 1800] (pc' := 579) (lv' := [(0, .inr (.inr (some a0))), (4, .inl v4)]) (st' := [.inl (1800 : Int32), .inl v4]) (by decide +kernel) rfl rfl ?_
  by_cases q249 : (1800 : Int32) ≤ v4
  · rw [if_pos q249] at h
    refine xv_icmp_ge E 597 (show decode prog_14_method_1_code 579 = .ok (.if_icmp .ge (18), 3) by decide +kernel) rfl (fun _ => ?_) (fun z => absurd q249 z)
    refine xv_b E [.aload_n 0, .sipush 1800] (pc' := 601) (lv' := [(0, .inr (.inr (some a0))), (4, .inl v4)]) (st' := [.inl (1800 : Int32), .inr (.inr (some a0))]) (by decide +kernel) rfl rfl ?_
    obtain ⟨M243, h244, h⟩ := bd h
    refine xp_i E 12 9 h244 mw924 (show decode prog_14_method_1_code 601 = .ok (.putfield 183, 3) by decide +kernel) (Or.inl rfl) ?_
    obtain rfl := Option.some.inj h
    obtain ⟨rfl, rfl⟩ := Prod.mk.inj (show ((none : Option aV), M243) = (r, M') from hN)
    exact xv_rv E B.1 B.2.1 (show decode prog_14_method_1_code 604 = .ok (.return_, 1) by decide +kernel) rfl rfl
  · rw [if_neg q249] at h
    refine xv_icmp_ge E 597 (show decode prog_14_method_1_code 579 = .ok (.if_icmp .ge (18), 3) by decide +kernel) rfl (fun z => absurd z q249) (fun _ => ?_)
    refine xv_b E [.aload_n 0] (pc' := 583) (lv' := [(0, .inr (.inr (some a0))), (4, .inl v4)]) (st' := [.inr (.inr (some a0))]) (by decide +kernel) rfl rfl ?_
    obtain ⟨o_245, h246, h⟩ := bd h
    refine xg_r E 12 8 h246 mw869 (show decode prog_14_method_1_code 583 = .ok (.getfield 24, 3) by decide +kernel) ?_
    refine xv_b E [.iload 4, .iload 4] (pc' := 590) (lv' := [(0, .inr (.inr (some a0))), (4, .inl v4)]) (st' := [.inl v4, .inl v4, .inr (.inr o_245)]) (by decide +kernel) rfl rfl ?_
    obtain ⟨M247, h248, h⟩ := bd h
    refine xs_i E h248 (show decode prog_14_method_1_code 590 = .ok (.iastore, 1) by decide +kernel) ?_
    refine xv_b E [.iinc 4 1] (pc' := 594) (lv' := [(4, .inl (v4 + (1 : Int32))), (0, .inr (.inr (some a0)))]) (st' := []) (by decide +kernel) rfl rfl ?_
    refine xv_goto E 574 (show decode prog_14_method_1_code 594 = .ok (.goto (-20), 3) by decide +kernel) rfl ?_
    obtain rfl := Option.some.inj h
    exact xv_w hN rfl
end
theorem t164 (G : gX) (l : Launch) {as : List aV} {M : hM} {r : Option aV} {M' : hM} (h : f164 as M = some (r, M')) : xM G l ym164 prog_14_method_1_code 5 none 1 as M r M' := by
  unfold f164 at h
  split at h
  · have hle : ∀ h as M res, k164 h as M = some res → h_sz M ≤ r_sz res ∧ h_sl M ≤ r_sl res := by
      intro h as M res hb
      unfold k164 at hb
      by_cases e0 : h = 508
      · rw [if_pos e0] at hb
        split at hb
        · exact lb164_508 G l _ _ M hb
        · cases hb
      · rw [if_neg e0] at hb
        by_cases e1 : h = 548
        · rw [if_pos e1] at hb
          split at hb
          · exact lb164_548 G l _ _ M hb
          · cases hb
        · rw [if_neg e1] at hb
          by_cases e2 : h = 574
          · rw [if_pos e2] at hb
            split at hb
            · exact lb164_574 G l _ _ M hb
            · cases hb
          · rw [if_neg e2] at hb
            cases hb
    obtain ⟨res, hx, hres⟩ := x_go_ok h
    refine xM_of (by decide) (Nat.le_of_ble_eq_true rfl) ?_ ?_
    · have e1 := lb164_0 G l _ _ _ _ M hx
      have e2 := x_go_le hle hres
      omega
    · intro p e s m args below meth c E B
      refine sb164_0 E B _ _ _ _ M hx (hres _ ?_)
      intro h as M res hb hN
      unfold k164 at hb
      unfold pg164
      by_cases e0 : h = 508
      · rw [if_pos e0] at hb ⊢
        split at hb
        · exact sb164_508 E B _ _ M hb hN
        · cases hb
      · rw [if_neg e0] at hb ⊢
        by_cases e1 : h = 548
        · rw [if_pos e1] at hb ⊢
          split at hb
          · exact sb164_548 E B _ _ M hb hN
          · cases hb
        · rw [if_neg e1] at hb ⊢
          by_cases e2 : h = 574
          · rw [if_pos e2] at hb ⊢
            split at hb
            · exact sb164_574 E B _ _ M hb hN
            · cases hb
          · rw [if_neg e2] at hb ⊢
            cases hb
  · cases h
