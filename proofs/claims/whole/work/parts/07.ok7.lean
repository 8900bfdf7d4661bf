theorem e_Ok_0 : ∀ i, 0 ≤ i → i < 10 → e_Ok i := by
  intro i h1 h2
  have : i = 0 ∨ i = 1 ∨ i = 2 ∨ i = 3 ∨ i = 4 ∨ i = 5 ∨ i = 6 ∨ i = 7 ∨ i = 8 ∨ i = 9 := by omega
  rcases this with rfl | rfl | rfl | rfl | rfl | rfl | rfl | rfl | rfl | rfl
  · exact ⟨_, e_k0⟩
  · exact ⟨_, e_k1⟩
  · exact ⟨_, e_k2⟩
  · exact ⟨_, e_k3⟩
  · exact ⟨_, e_k4⟩
  · exact ⟨_, e_k5⟩
  · exact ⟨_, e_k6⟩
  · exact ⟨_, e_k7⟩
  · exact ⟨_, e_k8⟩
  · exact ⟨_, e_k9⟩
theorem e_Ok_10 : ∀ i, 10 ≤ i → i < 20 → e_Ok i := by
  intro i h1 h2
  have : i = 10 ∨ i = 11 ∨ i = 12 ∨ i = 13 ∨ i = 14 ∨ i = 15 ∨ i = 16 ∨ i = 17 ∨ i = 18 ∨ i = 19 := by omega
  rcases this with rfl | rfl | rfl | rfl | rfl | rfl | rfl | rfl | rfl | rfl
  · exact ⟨_, e_k10⟩
  · exact ⟨_, e_k11⟩
  · exact ⟨_, e_k12⟩
  · exact ⟨_, e_k13⟩
  · exact ⟨_, e_k14⟩
  · exact ⟨_, e_k15⟩
  · exact ⟨_, e_k16⟩
  · exact ⟨_, e_k17⟩
  · exact ⟨_, e_k18⟩
  · exact ⟨_, e_k19⟩
theorem e_Ok_20 : ∀ i, 20 ≤ i → i < 30 → e_Ok i := by
  intro i h1 h2
  have : i = 20 ∨ i = 21 ∨ i = 22 ∨ i = 23 ∨ i = 24 ∨ i = 25 ∨ i = 26 ∨ i = 27 ∨ i = 28 ∨ i = 29 := by omega
  rcases this with rfl | rfl | rfl | rfl | rfl | rfl | rfl | rfl | rfl | rfl
  · exact ⟨_, e_k20⟩
  · exact ⟨_, e_k21⟩
  · exact ⟨_, e_k22⟩
  · exact ⟨_, e_k23⟩
  · exact ⟨_, e_k24⟩
  · exact ⟨_, e_k25⟩
  · exact ⟨_, e_k26⟩
  · exact ⟨_, e_k27⟩
  · exact ⟨_, e_k28⟩
  · exact ⟨_, e_k29⟩
theorem e_Ok_30 : ∀ i, 30 ≤ i → i < 40 → e_Ok i := by
  intro i h1 h2
  have : i = 30 ∨ i = 31 ∨ i = 32 ∨ i = 33 ∨ i = 34 ∨ i = 35 ∨ i = 36 ∨ i = 37 ∨ i = 38 ∨ i = 39 := by omega
  rcases this with rfl | rfl | rfl | rfl | rfl | rfl | rfl | rfl | rfl | rfl
  · exact ⟨_, e_k30⟩
  · exact ⟨_, e_k31⟩
  · exact ⟨_, e_k32⟩
  · exact ⟨_, e_k33⟩
  · exact ⟨_, e_k34⟩
  · exact ⟨_, e_k35⟩
  · exact ⟨_, e_k36⟩
  · exact ⟨_, e_k37⟩
  · exact ⟨_, e_k38⟩
  · exact ⟨_, e_k39⟩
theorem e_Ok_40 : ∀ i, 40 ≤ i → i < 50 → e_Ok i := by
  intro i h1 h2
  have : i = 40 ∨ i = 41 ∨ i = 42 ∨ i = 43 ∨ i = 44 ∨ i = 45 ∨ i = 46 ∨ i = 47 ∨ i = 48 ∨ i = 49 := by omega
  rcases this with rfl | rfl | rfl | rfl | rfl | rfl | rfl | rfl | rfl | rfl
  · exact ⟨_, e_k40⟩
  · exact ⟨_, e_k41⟩
  · exact ⟨_, e_k42⟩
  · exact ⟨_, e_k43⟩
  · exact ⟨_, e_k44⟩
  · exact ⟨_, e_k45⟩
  · exact ⟨_, e_k46⟩
  · exact ⟨_, e_k47⟩
  · exact ⟨_, e_k48⟩
  · exact ⟨_, e_k49⟩
theorem e_Ok_50 : ∀ i, 50 ≤ i → i < 60 → e_Ok i := by
  intro i h1 h2
  have : i = 50 ∨ i = 51 ∨ i = 52 ∨ i = 53 ∨ i = 54 ∨ i = 55 ∨ i = 56 ∨ i = 57 ∨ i = 58 ∨ i = 59 := by omega
  rcases this with rfl | rfl | rfl | rfl | rfl | rfl | rfl | rfl | rfl | rfl
  · exact ⟨_, e_k50⟩
  · exact ⟨_, e_k51⟩
  · exact ⟨_, e_k52⟩
  · exact ⟨_, e_k53⟩
  · exact ⟨_, e_k54⟩
  · exact ⟨_, e_k55⟩
  · exact ⟨_, e_k56⟩
  · exact ⟨_, e_k57⟩
  · exact ⟨_, e_k58⟩
  · exact ⟨_, e_k59⟩
theorem e_Ok_60 : ∀ i, 60 ≤ i → i < 70 → e_Ok i := by
  intro i h1 h2
  have : i = 60 ∨ i = 61 ∨ i = 62 ∨ i = 63 ∨ i = 64 ∨ i = 65 ∨ i = 66 ∨ i = 67 ∨ i = 68 ∨ i = 69 := by omega
  rcases this with rfl | rfl | rfl | rfl | rfl | rfl | rfl | rfl | rfl | rfl
  · exact ⟨_, e_k60⟩
  · exact ⟨_, e_k61⟩
  · exact ⟨_, e_k62⟩
  · exact ⟨_, e_k63⟩
  · exact ⟨_, e_k64⟩
  · exact ⟨_, e_k65⟩
  · exact ⟨_, e_k66⟩
  · exact ⟨_, e_k67⟩
  · exact ⟨_, e_k68⟩
  · exact ⟨_, e_k69⟩
theorem e_Ok_70 : ∀ i, 70 ≤ i → i < 80 → e_Ok i := by
  intro i h1 h2
  have : i = 70 ∨ i = 71 ∨ i = 72 ∨ i = 73 ∨ i = 74 ∨ i = 75 ∨ i = 76 ∨ i = 77 ∨ i = 78 ∨ i = 79 := by omega
  rcases this with rfl | rfl | rfl | rfl | rfl | rfl | rfl | rfl | rfl | rfl
  · exact ⟨_, e_k70⟩
  · exact ⟨_, e_k71⟩
  · exact ⟨_, e_k72⟩
  · exact ⟨_, e_k73⟩
  · exact ⟨_, e_k74⟩
  · exact ⟨_, e_k75⟩
  · exact ⟨_, e_k76⟩
  · exact ⟨_, e_k77⟩
  · exact ⟨_, e_k78⟩
  · exact ⟨_, e_k79⟩
theorem e_Ok_80 : ∀ i, 80 ≤ i → i < 90 → e_Ok i := by
  intro i h1 h2
  have : i = 80 ∨ i = 81 ∨ i = 82 ∨ i = 83 ∨ i = 84 ∨ i = 85 ∨ i = 86 ∨ i = 87 ∨ i = 88 ∨ i = 89 := by omega
  rcases this with rfl | rfl | rfl | rfl | rfl | rfl | rfl | rfl | rfl | rfl
  · exact ⟨_, e_k80⟩
  · exact ⟨_, e_k81⟩
  · exact ⟨_, e_k82⟩
  · exact ⟨_, e_k83⟩
  · exact ⟨_, e_k84⟩
  · exact ⟨_, e_k85⟩
  · exact ⟨_, e_k86⟩
  · exact ⟨_, e_k87⟩
  · exact ⟨_, e_k88⟩
  · exact ⟨_, e_k89⟩
theorem e_Ok_90 : ∀ i, 90 ≤ i → i < 100 → e_Ok i := by
  intro i h1 h2
  have : i = 90 ∨ i = 91 ∨ i = 92 ∨ i = 93 ∨ i = 94 ∨ i = 95 ∨ i = 96 ∨ i = 97 ∨ i = 98 ∨ i = 99 := by omega
  rcases this with rfl | rfl | rfl | rfl | rfl | rfl | rfl | rfl | rfl | rfl
  · exact ⟨_, e_k90⟩
  · exact ⟨_, e_k91⟩
  · exact ⟨_, e_k92⟩
  · exact ⟨_, e_k93⟩
  · exact ⟨_, e_k94⟩
  · exact ⟨_, e_k95⟩
  · exact ⟨_, e_k96⟩
  · exact ⟨_, e_k97⟩
  · exact ⟨_, e_k98⟩
  · exact ⟨_, e_k99⟩
theorem e_Ok_100 : ∀ i, 100 ≤ i → i < 110 → e_Ok i := by
  intro i h1 h2
  have : i = 100 ∨ i = 101 ∨ i = 102 ∨ i = 103 ∨ i = 104 ∨ i = 105 ∨ i = 106 ∨ i = 107 ∨ i = 108 ∨ i = 109 := by omega
  rcases this with rfl | rfl | rfl | rfl | rfl | rfl | rfl | rfl | rfl | rfl
  · exact ⟨_, e_k100⟩
  · exact ⟨_, e_k101⟩
  · exact ⟨_, e_k102⟩
  · exact ⟨_, e_k103⟩
  · exact ⟨_, e_k104⟩
  · exact ⟨_, e_k105⟩
  · exact ⟨_, e_k106⟩
  · exact ⟨_, e_k107⟩
  · exact ⟨_, e_k108⟩
  · exact ⟨_, e_k109⟩
theorem e_Ok_110 : ∀ i, 110 ≤ i → i < 120 → e_Ok i := by
  intro i h1 h2
  have : i = 110 ∨ i = 111 ∨ i = 112 ∨ i = 113 ∨ i = 114 ∨ i = 115 ∨ i = 116 ∨ i = 117 ∨ i = 118 ∨ i = 119 := by omega
  rcases this with rfl | rfl | rfl | rfl | rfl | rfl | rfl | rfl | rfl | rfl
  · exact ⟨_, e_k110⟩
  · exact ⟨_, e_k111⟩
  · exact ⟨_, e_k112⟩
  · exact ⟨_, e_k113⟩
  · exact ⟨_, e_k114⟩
  · exact ⟨_, e_k115⟩
  · exact ⟨_, e_k116⟩
  · exact ⟨_, e_k117⟩
  · exact ⟨_, e_k118⟩
  · exact ⟨_, e_k119⟩
theorem e_Ok_120 : ∀ i, 120 ≤ i → i < 130 → e_Ok i := by
  intro i h1 h2
  have : i = 120 ∨ i = 121 ∨ i = 122 ∨ i = 123 ∨ i = 124 ∨ i = 125 ∨ i = 126 ∨ i = 127 ∨ i = 128 ∨ i = 129 := by omega
  rcases this with rfl | rfl | rfl | rfl | rfl | rfl | rfl | rfl | rfl | rfl
  · exact ⟨_, e_k120⟩
  · exact ⟨_, e_k121⟩
  · exact ⟨_, e_k122⟩
  · exact ⟨_, e_k123⟩
  · exact ⟨_, e_k124⟩
  · exact ⟨_, e_k125⟩
  · exact ⟨_, e_k126⟩
  · exact ⟨_, e_k127⟩
  · exact ⟨_, e_k128⟩
  · exact ⟨_, e_k129⟩
theorem e_Ok_130 : ∀ i, 130 ≤ i → i < 140 → e_Ok i := by
  intro i h1 h2
  have : i = 130 ∨ i = 131 ∨ i = 132 ∨ i = 133 ∨ i = 134 ∨ i = 135 ∨ i = 136 ∨ i = 137 ∨ i = 138 ∨ i = 139 := by omega
  rcases this with rfl | rfl | rfl | rfl | rfl | rfl | rfl | rfl | rfl | rfl
  · exact ⟨_, e_k130⟩
  · exact ⟨_, e_k131⟩
  · exact ⟨_, e_k132⟩
  · exact ⟨_, e_k133⟩
  · exact ⟨_, e_k134⟩
  · exact ⟨_, e_k135⟩
  · exact ⟨_, e_k136⟩
  · exact ⟨_, e_k137⟩
  · exact ⟨_, e_k138⟩
  · exact ⟨_, e_k139⟩
theorem e_Ok_140 : ∀ i, 140 ≤ i → i < 150 → e_Ok i := by
  intro i h1 h2
  have : i = 140 ∨ i = 141 ∨ i = 142 ∨ i = 143 ∨ i = 144 ∨ i = 145 ∨ i = 146 ∨ i = 147 ∨ i = 148 ∨ i = 149 := by omega
  rcases this with rfl | rfl | rfl | rfl | rfl | rfl | rfl | rfl | rfl | rfl
  · exact ⟨_, e_k140⟩
  · exact ⟨_, e_k141⟩
  · exact ⟨_, e_k142⟩
  · exact ⟨_, e_k143⟩
  · exact ⟨_, e_k144⟩
  · exact ⟨_, e_k145⟩
  · exact ⟨_, e_k146⟩
  · exact ⟨_, e_k147⟩
  · exact ⟨_, e_k148⟩
  · exact ⟨_, e_k149⟩
theorem e_Ok_150 : ∀ i, 150 ≤ i → i < 160 → e_Ok i := by
  intro i h1 h2
  have : i = 150 ∨ i = 151 ∨ i = 152 ∨ i = 153 ∨ i = 154 ∨ i = 155 ∨ i = 156 ∨ i = 157 ∨ i = 158 ∨ i = 159 := by omega
  rcases this with rfl | rfl | rfl | rfl | rfl | rfl | rfl | rfl | rfl | rfl
  · exact ⟨_, e_k150⟩
  · exact ⟨_, e_k151⟩
  · exact ⟨_, e_k152⟩
  · exact ⟨_, e_k153⟩
  · exact ⟨_, e_k154⟩
  · exact ⟨_, e_k155⟩
  · exact ⟨_, e_k156⟩
  · exact ⟨_, e_k157⟩
  · exact ⟨_, e_k158⟩
  · exact ⟨_, e_k159⟩
theorem e_Ok_160 : ∀ i, 160 ≤ i → i < 170 → e_Ok i := by
  intro i h1 h2
  have : i = 160 ∨ i = 161 ∨ i = 162 ∨ i = 163 ∨ i = 164 ∨ i = 165 ∨ i = 166 ∨ i = 167 ∨ i = 168 ∨ i = 169 := by omega
  rcases this with rfl | rfl | rfl | rfl | rfl | rfl | rfl | rfl | rfl | rfl
  · exact ⟨_, e_k160⟩
  · exact ⟨_, e_k161⟩
  · exact ⟨_, e_k162⟩
  · exact ⟨_, e_k163⟩
  · exact ⟨_, e_k164⟩
  · exact ⟨_, e_k165⟩
  · exact ⟨_, e_k166⟩
  · exact ⟨_, e_k167⟩
  · exact ⟨_, e_k168⟩
  · exact ⟨_, e_k169⟩
theorem e_Ok_170 : ∀ i, 170 ≤ i → i < 180 → e_Ok i := by
  intro i h1 h2
  have : i = 170 ∨ i = 171 ∨ i = 172 ∨ i = 173 ∨ i = 174 ∨ i = 175 ∨ i = 176 ∨ i = 177 ∨ i = 178 ∨ i = 179 := by omega
  rcases this with rfl | rfl | rfl | rfl | rfl | rfl | rfl | rfl | rfl | rfl
  · exact ⟨_, e_k170⟩
  · exact ⟨_, e_k171⟩
  · exact ⟨_, e_k172⟩
  · exact ⟨_, e_k173⟩
  · exact ⟨_, e_k174⟩
  · exact ⟨_, e_k175⟩
  · exact ⟨_, e_k176⟩
  · exact ⟨_, e_k177⟩
  · exact ⟨_, e_k178⟩
  · exact ⟨_, e_k179⟩
theorem e_Ok_180 : ∀ i, 180 ≤ i → i < 190 → e_Ok i := by
  intro i h1 h2
  have : i = 180 ∨ i = 181 ∨ i = 182 ∨ i = 183 ∨ i = 184 ∨ i = 185 ∨ i = 186 ∨ i = 187 ∨ i = 188 ∨ i = 189 := by omega
  rcases this with rfl | rfl | rfl | rfl | rfl | rfl | rfl | rfl | rfl | rfl
  · exact ⟨_, e_k180⟩
  · exact ⟨_, e_k181⟩
  · exact ⟨_, e_k182⟩
  · exact ⟨_, e_k183⟩
  · exact ⟨_, e_k184⟩
  · exact ⟨_, e_k185⟩
  · exact ⟨_, e_k186⟩
  · exact ⟨_, e_k187⟩
  · exact ⟨_, e_k188⟩
  · exact ⟨_, e_k189⟩
theorem e_Ok_190 : ∀ i, 190 ≤ i → i < 200 → e_Ok i := by
  intro i h1 h2
  have : i = 190 ∨ i = 191 ∨ i = 192 ∨ i = 193 ∨ i = 194 ∨ i = 195 ∨ i = 196 ∨ i = 197 ∨ i = 198 ∨ i = 199 := by omega
  rcases this with rfl | rfl | rfl | rfl | rfl | rfl | rfl | rfl | rfl | rfl
  · exact ⟨_, e_k190⟩
  · exact ⟨_, e_k191⟩
  · exact ⟨_, e_k192⟩
  · exact ⟨_, e_k193⟩
  · exact ⟨_, e_k194⟩
  · exact ⟨_, e_k195⟩
  · exact ⟨_, e_k196⟩
  · exact ⟨_, e_k197⟩
  · exact ⟨_, e_k198⟩
  · exact ⟨_, e_k199⟩
theorem e_Ok_200 : ∀ i, 200 ≤ i → i < 210 → e_Ok i := by
  intro i h1 h2
  have : i = 200 ∨ i = 201 ∨ i = 202 ∨ i = 203 ∨ i = 204 ∨ i = 205 ∨ i = 206 ∨ i = 207 ∨ i = 208 ∨ i = 209 := by omega
  rcases this with rfl | rfl | rfl | rfl | rfl | rfl | rfl | rfl | rfl | rfl
  · exact ⟨_, e_k200⟩
  · exact ⟨_, e_k201⟩
  · exact ⟨_, e_k202⟩
  · exact ⟨_, e_k203⟩
  · exact ⟨_, e_k204⟩
  · exact ⟨_, e_k205⟩
  · exact ⟨_, e_k206⟩
  · exact ⟨_, e_k207⟩
  · exact ⟨_, e_k208⟩
  · exact ⟨_, e_k209⟩
theorem e_Ok_210 : ∀ i, 210 ≤ i → i < 220 → e_Ok i := by
  intro i h1 h2
  have : i = 210 ∨ i = 211 ∨ i = 212 ∨ i = 213 ∨ i = 214 ∨ i = 215 ∨ i = 216 ∨ i = 217 ∨ i = 218 ∨ i = 219 := by omega
  rcases this with rfl | rfl | rfl | rfl | rfl | rfl | rfl | rfl | rfl | rfl
  · exact ⟨_, e_k210⟩
  · exact ⟨_, e_k211⟩
  · exact ⟨_, e_k212⟩
  · exact ⟨_, e_k213⟩
  · exact ⟨_, e_k214⟩
  · exact ⟨_, e_k215⟩
  · exact ⟨_, e_k216⟩
  · exact ⟨_, e_k217⟩
  · exact ⟨_, e_k218⟩
  · exact ⟨_, e_k219⟩
theorem e_Ok_220 : ∀ i, 220 ≤ i → i < 230 → e_Ok i := by
  intro i h1 h2
  have : i = 220 ∨ i = 221 ∨ i = 222 ∨ i = 223 ∨ i = 224 ∨ i = 225 ∨ i = 226 ∨ i = 227 ∨ i = 228 ∨ i = 229 := by omega
  rcases this with rfl | rfl | rfl | rfl | rfl | rfl | rfl | rfl | rfl | rfl
  · exact ⟨_, e_k220⟩
  · exact ⟨_, e_k221⟩
  · exact ⟨_, e_k222⟩
  · exact ⟨_, e_k223⟩
  · exact ⟨_, e_k224⟩
  · exact ⟨_, e_k225⟩
  · exact ⟨_, e_k226⟩
  · exact ⟨_, e_k227⟩
  · exact ⟨_, e_k228⟩
  · exact ⟨_, e_k229⟩
theorem e_Ok_230 : ∀ i, 230 ≤ i → i < 236 → e_Ok i := by
  intro i h1 h2
  have : i = 230 ∨ i = 231 ∨ i = 232 ∨ i = 233 ∨ i = 234 ∨ i = 235 := by omega
  rcases this with rfl | rfl | rfl | rfl | rfl | rfl
  · exact ⟨_, e_k230⟩
  · exact ⟨_, e_k231⟩
  · exact ⟨_, e_k232⟩
  · exact ⟨_, e_k233⟩
  · exact ⟨_, e_k234⟩
  · exact ⟨_, e_k235⟩
theorem e_Ok_all : ∀ i, i < 236 → e_Ok i := by
  intro i hi
  by_cases h0 : i < 10
  · exact e_Ok_0 i (by omega) h0
  by_cases h10 : i < 20
  · exact e_Ok_10 i (by omega) h10
  by_cases h20 : i < 30
  · exact e_Ok_20 i (by omega) h20
  by_cases h30 : i < 40
  · exact e_Ok_30 i (by omega) h30
  by_cases h40 : i < 50
  · exact e_Ok_40 i (by omega) h40
  by_cases h50 : i < 60
  · exact e_Ok_50 i (by omega) h50
  by_cases h60 : i < 70
  · exact e_Ok_60 i (by omega) h60
  by_cases h70 : i < 80
  · exact e_Ok_70 i (by omega) h70
  by_cases h80 : i < 90
  · exact e_Ok_80 i (by omega) h80
  by_cases h90 : i < 100
  · exact e_Ok_90 i (by omega) h90
  by_cases h100 : i < 110
  · exact e_Ok_100 i (by omega) h100
  by_cases h110 : i < 120
  · exact e_Ok_110 i (by omega) h110
  by_cases h120 : i < 130
  · exact e_Ok_120 i (by omega) h120
  by_cases h130 : i < 140
  · exact e_Ok_130 i (by omega) h130
  by_cases h140 : i < 150
  · exact e_Ok_140 i (by omega) h140
  by_cases h150 : i < 160
  · exact e_Ok_150 i (by omega) h150
  by_cases h160 : i < 170
  · exact e_Ok_160 i (by omega) h160
  by_cases h170 : i < 180
  · exact e_Ok_170 i (by omega) h170
  by_cases h180 : i < 190
  · exact e_Ok_180 i (by omega) h180
  by_cases h190 : i < 200
  · exact e_Ok_190 i (by omega) h190
  by_cases h200 : i < 210
  · exact e_Ok_200 i (by omega) h200
  by_cases h210 : i < 220
  · exact e_Ok_210 i (by omega) h210
  by_cases h220 : i < 230
  · exact e_Ok_220 i (by omega) h220
  by_cases h230 : i < 236
  · exact e_Ok_230 i (by omega) h230
  omega
theorem e_OkM_0 : ∀ i, 0 ≤ i → i < 10 → e_OkM i := by
  intro i h1 h2
  have : i = 0 ∨ i = 1 ∨ i = 2 ∨ i = 3 ∨ i = 4 ∨ i = 5 ∨ i = 6 ∨ i = 7 ∨ i = 8 ∨ i = 9 := by omega
  rcases this with rfl | rfl | rfl | rfl | rfl | rfl | rfl | rfl | rfl | rfl
  · exact ⟨_, e_j0⟩
  · exact ⟨_, e_j1⟩
  · exact ⟨_, e_j2⟩
  · exact ⟨_, e_j3⟩
  · exact ⟨_, e_j4⟩
  · exact ⟨_, e_j5⟩
  · exact ⟨_, e_j6⟩
  · exact ⟨_, e_j7⟩
  · exact ⟨_, e_j8⟩
  · exact ⟨_, e_j9⟩
theorem e_OkM_10 : ∀ i, 10 ≤ i → i < 20 → e_OkM i := by
  intro i h1 h2
  have : i = 10 ∨ i = 11 ∨ i = 12 ∨ i = 13 ∨ i = 14 ∨ i = 15 ∨ i = 16 ∨ i = 17 ∨ i = 18 ∨ i = 19 := by omega
  rcases this with rfl | rfl | rfl | rfl | rfl | rfl | rfl | rfl | rfl | rfl
  · exact ⟨_, e_j10⟩
  · exact ⟨_, e_j11⟩
  · exact ⟨_, e_j12⟩
  · exact ⟨_, e_j13⟩
  · exact ⟨_, e_j14⟩
  · exact ⟨_, e_j15⟩
  · exact ⟨_, e_j16⟩
  · exact ⟨_, e_j17⟩
  · exact ⟨_, e_j18⟩
  · exact ⟨_, e_j19⟩
theorem e_OkM_20 : ∀ i, 20 ≤ i → i < 30 → e_OkM i := by
  intro i h1 h2
  have : i = 20 ∨ i = 21 ∨ i = 22 ∨ i = 23 ∨ i = 24 ∨ i = 25 ∨ i = 26 ∨ i = 27 ∨ i = 28 ∨ i = 29 := by omega
  rcases this with rfl | rfl | rfl | rfl | rfl | rfl | rfl | rfl | rfl | rfl
  · exact ⟨_, e_j20⟩
  · exact ⟨_, e_j21⟩
  · exact ⟨_, e_j22⟩
  · exact ⟨_, e_j23⟩
  · exact ⟨_, e_j24⟩
  · exact ⟨_, e_j25⟩
  · exact ⟨_, e_j26⟩
  · exact ⟨_, e_j27⟩
  · exact ⟨_, e_j28⟩
  · exact ⟨_, e_j29⟩
theorem e_OkM_30 : ∀ i, 30 ≤ i → i < 40 → e_OkM i := by
  intro i h1 h2
  have : i = 30 ∨ i = 31 ∨ i = 32 ∨ i = 33 ∨ i = 34 ∨ i = 35 ∨ i = 36 ∨ i = 37 ∨ i = 38 ∨ i = 39 := by omega
  rcases this with rfl | rfl | rfl | rfl | rfl | rfl | rfl | rfl | rfl | rfl
  · exact ⟨_, e_j30⟩
  · exact ⟨_, e_j31⟩
  · exact ⟨_, e_j32⟩
  · exact ⟨_, e_j33⟩
  · exact ⟨_, e_j34⟩
  · exact ⟨_, e_j35⟩
  · exact ⟨_, e_j36⟩
  · exact ⟨_, e_j37⟩
  · exact ⟨_, e_j38⟩
  · exact ⟨_, e_j39⟩
theorem e_OkM_40 : ∀ i, 40 ≤ i → i < 50 → e_OkM i := by
  intro i h1 h2
  have : i = 40 ∨ i = 41 ∨ i = 42 ∨ i = 43 ∨ i = 44 ∨ i = 45 ∨ i = 46 ∨ i = 47 ∨ i = 48 ∨ i = 49 := by omega
  rcases this with rfl | rfl | rfl | rfl | rfl | rfl | rfl | rfl | rfl | rfl
  · exact ⟨_, e_j40⟩
  · exact ⟨_, e_j41⟩
  · exact ⟨_, e_j42⟩
  · exact ⟨_, e_j43⟩
  · exact ⟨_, e_j44⟩
  · exact ⟨_, e_j45⟩
  · exact ⟨_, e_j46⟩
  · exact ⟨_, e_j47⟩
  · exact ⟨_, e_j48⟩
  · exact ⟨_, e_j49⟩
theorem e_OkM_50 : ∀ i, 50 ≤ i → i < 60 → e_OkM i := by
  intro i h1 h2
  have : i = 50 ∨ i = 51 ∨ i = 52 ∨ i = 53 ∨ i = 54 ∨ i = 55 ∨ i = 56 ∨ i = 57 ∨ i = 58 ∨ i = 59 := by omega
  rcases this with rfl | rfl | rfl | rfl | rfl | rfl | rfl | rfl | rfl | rfl
  · exact ⟨_, e_j50⟩
  · exact ⟨_, e_j51⟩
  · exact ⟨_, e_j52⟩
  · exact ⟨_, e_j53⟩
  · exact ⟨_, e_j54⟩
  · exact ⟨_, e_j55⟩
  · exact ⟨_, e_j56⟩
  · exact ⟨_, e_j57⟩
  · exact ⟨_, e_j58⟩
  · exact ⟨_, e_j59⟩
theorem e_OkM_60 : ∀ i, 60 ≤ i → i < 70 → e_OkM i := by
  intro i h1 h2
  have : i = 60 ∨ i = 61 ∨ i = 62 ∨ i = 63 ∨ i = 64 ∨ i = 65 ∨ i = 66 ∨ i = 67 ∨ i = 68 ∨ i = 69 := by omega
  rcases this with rfl | rfl | rfl | rfl | rfl | rfl | rfl | rfl | rfl | rfl
  · exact ⟨_, e_j60⟩
  · exact ⟨_, e_j61⟩
  · exact ⟨_, e_j62⟩
  · exact ⟨_, e_j63⟩
  · exact ⟨_, e_j64⟩
  · exact ⟨_, e_j65⟩
  · exact ⟨_, e_j66⟩
  · exact ⟨_, e_j67⟩
  · exact ⟨_, e_j68⟩
  · exact ⟨_, e_j69⟩
theorem e_OkM_70 : ∀ i, 70 ≤ i → i < 80 → e_OkM i := by
  intro i h1 h2
  have : i = 70 ∨ i = 71 ∨ i = 72 ∨ i = 73 ∨ i = 74 ∨ i = 75 ∨ i = 76 ∨ i = 77 ∨ i = 78 ∨ i = 79 := by omega
  rcases this with rfl | rfl | rfl | rfl | rfl | rfl | rfl | rfl | rfl | rfl
  · exact ⟨_, e_j70⟩
  · exact ⟨_, e_j71⟩
  · exact ⟨_, e_j72⟩
  · exact ⟨_, e_j73⟩
  · exact ⟨_, e_j74⟩
  · exact ⟨_, e_j75⟩
  · exact ⟨_, e_j76⟩
  · exact ⟨_, e_j77⟩
  · exact ⟨_, e_j78⟩
  · exact ⟨_, e_j79⟩
theorem e_OkM_80 : ∀ i, 80 ≤ i → i < 90 → e_OkM i := by
  intro i h1 h2
  have : i = 80 ∨ i = 81 ∨ i = 82 ∨ i = 83 ∨ i = 84 ∨ i = 85 ∨ i = 86 ∨ i = 87 ∨ i = 88 ∨ i = 89 := by omega
  rcases this with rfl | rfl | rfl | rfl | rfl | rfl | rfl | rfl | rfl | rfl
  · exact ⟨_, e_j80⟩
  · exact ⟨_, e_j81⟩
  · exact ⟨_, e_j82⟩
  · exact ⟨_, e_j83⟩
  · exact ⟨_, e_j84⟩
  · exact ⟨_, e_j85⟩
  · exact ⟨_, e_j86⟩
  · exact ⟨_, e_j87⟩
  · exact ⟨_, e_j88⟩
  · exact ⟨_, e_j89⟩
theorem e_OkM_90 : ∀ i, 90 ≤ i → i < 100 → e_OkM i := by
  intro i h1 h2
  have : i = 90 ∨ i = 91 ∨ i = 92 ∨ i = 93 ∨ i = 94 ∨ i = 95 ∨ i = 96 ∨ i = 97 ∨ i = 98 ∨ i = 99 := by omega
  rcases this with rfl | rfl | rfl | rfl | rfl | rfl | rfl | rfl | rfl | rfl
  · exact ⟨_, e_j90⟩
  · exact ⟨_, e_j91⟩
  · exact ⟨_, e_j92⟩
  · exact ⟨_, e_j93⟩
  · exact ⟨_, e_j94⟩
  · exact ⟨_, e_j95⟩
  · exact ⟨_, e_j96⟩
  · exact ⟨_, e_j97⟩
  · exact ⟨_, e_j98⟩
  · exact ⟨_, e_j99⟩
theorem e_OkM_100 : ∀ i, 100 ≤ i → i < 110 → e_OkM i := by
  intro i h1 h2
  have : i = 100 ∨ i = 101 ∨ i = 102 ∨ i = 103 ∨ i = 104 ∨ i = 105 ∨ i = 106 ∨ i = 107 ∨ i = 108 ∨ i = 109 := by omega
  rcases this with rfl | rfl | rfl | rfl | rfl | rfl | rfl | rfl | rfl | rfl
  · exact ⟨_, e_j100⟩
  · exact ⟨_, e_j101⟩
  · exact ⟨_, e_j102⟩
  · exact ⟨_, e_j103⟩
  · exact ⟨_, e_j104⟩
  · exact ⟨_, e_j105⟩
  · exact ⟨_, e_j106⟩
  · exact ⟨_, e_j107⟩
  · exact ⟨_, e_j108⟩
  · exact ⟨_, e_j109⟩
theorem e_OkM_110 : ∀ i, 110 ≤ i → i < 120 → e_OkM i := by
  intro i h1 h2
  have : i = 110 ∨ i = 111 ∨ i = 112 ∨ i = 113 ∨ i = 114 ∨ i = 115 ∨ i = 116 ∨ i = 117 ∨ i = 118 ∨ i = 119 := by omega
  rcases this with rfl | rfl | rfl | rfl | rfl | rfl | rfl | rfl | rfl | rfl
  · exact ⟨_, e_j110⟩
  · exact ⟨_, e_j111⟩
  · exact ⟨_, e_j112⟩
  · exact ⟨_, e_j113⟩
  · exact ⟨_, e_j114⟩
  · exact ⟨_, e_j115⟩
  · exact ⟨_, e_j116⟩
  · exact ⟨_, e_j117⟩
  · exact ⟨_, e_j118⟩
  · exact ⟨_, e_j119⟩
theorem e_OkM_120 : ∀ i, 120 ≤ i → i < 130 → e_OkM i := by
  intro i h1 h2
  have : i = 120 ∨ i = 121 ∨ i = 122 ∨ i = 123 ∨ i = 124 ∨ i = 125 ∨ i = 126 ∨ i = 127 ∨ i = 128 ∨ i = 129 := by omega
  rcases this with rfl | rfl | rfl | rfl | rfl | rfl | rfl | rfl | rfl | rfl
  · exact ⟨_, e_j120⟩
  · exact ⟨_, e_j121⟩
  · exact ⟨_, e_j122⟩
  · exact ⟨_, e_j123⟩
  · exact ⟨_, e_j124⟩
  · exact ⟨_, e_j125⟩
  · exact ⟨_, e_j126⟩
  · exact ⟨_, e_j127⟩
  · exact ⟨_, e_j128⟩
  · exact ⟨_, e_j129⟩
theorem e_OkM_130 : ∀ i, 130 ≤ i → i < 140 → e_OkM i := by
  intro i h1 h2
  have : i = 130 ∨ i = 131 ∨ i = 132 ∨ i = 133 ∨ i = 134 ∨ i = 135 ∨ i = 136 ∨ i = 137 ∨ i = 138 ∨ i = 139 := by omega
  rcases this with rfl | rfl | rfl | rfl | rfl | rfl | rfl | rfl | rfl | rfl
  · exact ⟨_, e_j130⟩
  · exact ⟨_, e_j131⟩
  · exact ⟨_, e_j132⟩
  · exact ⟨_, e_j133⟩
  · exact ⟨_, e_j134⟩
  · exact ⟨_, e_j135⟩
  · exact ⟨_, e_j136⟩
  · exact ⟨_, e_j137⟩
  · exact ⟨_, e_j138⟩
  · exact ⟨_, e_j139⟩
theorem e_OkM_140 : ∀ i, 140 ≤ i → i < 150 → e_OkM i := by
  intro i h1 h2
  have : i = 140 ∨ i = 141 ∨ i = 142 ∨ i = 143 ∨ i = 144 ∨ i = 145 ∨ i = 146 ∨ i = 147 ∨ i = 148 ∨ i = 149 := by omega
  rcases this with rfl | rfl | rfl | rfl | rfl | rfl | rfl | rfl | rfl | rfl
  · exact ⟨_, e_j140⟩
  · exact ⟨_, e_j141⟩
  · exact ⟨_, e_j142⟩
  · exact ⟨_, e_j143⟩
  · exact ⟨_, e_j144⟩
  · exact ⟨_, e_j145⟩
  · exact ⟨_, e_j146⟩
  · exact ⟨_, e_j147⟩
  · exact ⟨_, e_j148⟩
  · exact ⟨_, e_j149⟩
theorem e_OkM_150 : ∀ i, 150 ≤ i → i < 160 → e_OkM i := by
  intro i h1 h2
  have : i = 150 ∨ i = 151 ∨ i = 152 ∨ i = 153 ∨ i = 154 ∨ i = 155 ∨ i = 156 ∨ i = 157 ∨ i = 158 ∨ i = 159 := by omega
  rcases this with rfl | rfl | rfl | rfl | rfl | rfl | rfl | rfl | rfl | rfl
  · exact ⟨_, e_j150⟩
  · exact ⟨_, e_j151⟩
  · exact ⟨_, e_j152⟩
  · exact ⟨_, e_j153⟩
  · exact ⟨_, e_j154⟩
  · exact ⟨_, e_j155⟩
  · exact ⟨_, e_j156⟩
  · exact ⟨_, e_j157⟩
  · exact ⟨_, e_j158⟩
  · exact ⟨_, e_j159⟩
theorem e_OkM_160 : ∀ i, 160 ≤ i → i < 170 → e_OkM i := by
  intro i h1 h2
  have : i = 160 ∨ i = 161 ∨ i = 162 ∨ i = 163 ∨ i = 164 ∨ i = 165 ∨ i = 166 ∨ i = 167 ∨ i = 168 ∨ i = 169 := by omega
  rcases this with rfl | rfl | rfl | rfl | rfl | rfl | rfl | rfl | rfl | rfl
  · exact ⟨_, e_j160⟩
  · exact ⟨_, e_j161⟩
  · exact ⟨_, e_j162⟩
  · exact ⟨_, e_j163⟩
  · exact ⟨_, e_j164⟩
  · exact ⟨_, e_j165⟩
  · exact ⟨_, e_j166⟩
  · exact ⟨_, e_j167⟩
  · exact ⟨_, e_j168⟩
  · exact ⟨_, e_j169⟩
theorem e_OkM_170 : ∀ i, 170 ≤ i → i < 180 → e_OkM i := by
  intro i h1 h2
  have : i = 170 ∨ i = 171 ∨ i = 172 ∨ i = 173 ∨ i = 174 ∨ i = 175 ∨ i = 176 ∨ i = 177 ∨ i = 178 ∨ i = 179 := by omega
  rcases this with rfl | rfl | rfl | rfl | rfl | rfl | rfl | rfl | rfl | rfl
  · exact ⟨_, e_j170⟩
  · exact ⟨_, e_j171⟩
  · exact ⟨_, e_j172⟩
  · exact ⟨_, e_j173⟩
  · exact ⟨_, e_j174⟩
  · exact ⟨_, e_j175⟩
  · exact ⟨_, e_j176⟩
  · exact ⟨_, e_j177⟩
  · exact ⟨_, e_j178⟩
  · exact ⟨_, e_j179⟩
theorem e_OkM_180 : ∀ i, 180 ≤ i → i < 190 → e_OkM i := by
  intro i h1 h2
  have : i = 180 ∨ i = 181 ∨ i = 182 ∨ i = 183 ∨ i = 184 ∨ i = 185 ∨ i = 186 ∨ i = 187 ∨ i = 188 ∨ i = 189 := by omega
  rcases this with rfl | rfl | rfl | rfl | rfl | rfl | rfl | rfl | rfl | rfl
  · exact ⟨_, e_j180⟩
  · exact ⟨_, e_j181⟩
  · exact ⟨_, e_j182⟩
  · exact ⟨_, e_j183⟩
  · exact ⟨_, e_j184⟩
  · exact ⟨_, e_j185⟩
  · exact ⟨_, e_j186⟩
  · exact ⟨_, e_j187⟩
  · exact ⟨_, e_j188⟩
  · exact ⟨_, e_j189⟩
theorem e_OkM_190 : ∀ i, 190 ≤ i → i < 200 → e_OkM i := by
  intro i h1 h2
  have : i = 190 ∨ i = 191 ∨ i = 192 ∨ i = 193 ∨ i = 194 ∨ i = 195 ∨ i = 196 ∨ i = 197 ∨ i = 198 ∨ i = 199 := by omega
  rcases this with rfl | rfl | rfl | rfl | rfl | rfl | rfl | rfl | rfl | rfl
  · exact ⟨_, e_j190⟩
  · exact ⟨_, e_j191⟩
  · exact ⟨_, e_j192⟩
  · exact ⟨_, e_j193⟩
  · exact ⟨_, e_j194⟩
  · exact ⟨_, e_j195⟩
  · exact ⟨_, e_j196⟩
  · exact ⟨_, e_j197⟩
  · exact ⟨_, e_j198⟩
  · exact ⟨_, e_j199⟩
theorem e_OkM_200 : ∀ i, 200 ≤ i → i < 210 → e_OkM i := by
  intro i h1 h2
  have : i = 200 ∨ i = 201 ∨ i = 202 ∨ i = 203 ∨ i = 204 ∨ i = 205 ∨ i = 206 ∨ i = 207 ∨ i = 208 ∨ i = 209 := by omega
  rcases this with rfl | rfl | rfl | rfl | rfl | rfl | rfl | rfl | rfl | rfl
  · exact ⟨_, e_j200⟩
  · exact ⟨_, e_j201⟩
  · exact ⟨_, e_j202⟩
  · exact ⟨_, e_j203⟩
  · exact ⟨_, e_j204⟩
  · exact ⟨_, e_j205⟩
  · exact ⟨_, e_j206⟩
  · exact ⟨_, e_j207⟩
  · exact ⟨_, e_j208⟩
  · exact ⟨_, e_j209⟩
theorem e_OkM_210 : ∀ i, 210 ≤ i → i < 220 → e_OkM i := by
  intro i h1 h2
  have : i = 210 ∨ i = 211 ∨ i = 212 ∨ i = 213 ∨ i = 214 ∨ i = 215 ∨ i = 216 ∨ i = 217 ∨ i = 218 ∨ i = 219 := by omega
  rcases this with rfl | rfl | rfl | rfl | rfl | rfl | rfl | rfl | rfl | rfl
  · exact ⟨_, e_j210⟩
  · exact ⟨_, e_j211⟩
  · exact ⟨_, e_j212⟩
  · exact ⟨_, e_j213⟩
  · exact ⟨_, e_j214⟩
  · exact ⟨_, e_j215⟩
  · exact ⟨_, e_j216⟩
  · exact ⟨_, e_j217⟩
  · exact ⟨_, e_j218⟩
  · exact ⟨_, e_j219⟩
theorem e_OkM_220 : ∀ i, 220 ≤ i → i < 230 → e_OkM i := by
  intro i h1 h2
  have : i = 220 ∨ i = 221 ∨ i = 222 ∨ i = 223 ∨ i = 224 ∨ i = 225 ∨ i = 226 ∨ i = 227 ∨ i = 228 ∨ i = 229 := by omega
  rcases this with rfl | rfl | rfl | rfl | rfl | rfl | rfl | rfl | rfl | rfl
  · exact ⟨_, e_j220⟩
  · exact ⟨_, e_j221⟩
  · exact ⟨_, e_j222⟩
  · exact ⟨_, e_j223⟩
  · exact ⟨_, e_j224⟩
  · exact ⟨_, e_j225⟩
  · exact ⟨_, e_j226⟩
  · exact ⟨_, e_j227⟩
  · exact ⟨_, e_j228⟩
  · exact ⟨_, e_j229⟩
theorem e_OkM_230 : ∀ i, 230 ≤ i → i < 236 → e_OkM i := by
  intro i h1 h2
  have : i = 230 ∨ i = 231 ∨ i = 232 ∨ i = 233 ∨ i = 234 ∨ i = 235 := by omega
  rcases this with rfl | rfl | rfl | rfl | rfl | rfl
  · exact ⟨_, e_j230⟩
  · exact ⟨_, e_j231⟩
  · exact ⟨_, e_j232⟩
  · exact ⟨_, e_j233⟩
  · exact ⟨_, e_j234⟩
  · exact ⟨_, e_j235⟩
theorem e_OkM_all : ∀ i, i < 236 → e_OkM i := by
  intro i hi
  by_cases h0 : i < 10
  · exact e_OkM_0 i (by omega) h0
  by_cases h10 : i < 20
  · exact e_OkM_10 i (by omega) h10
  by_cases h20 : i < 30
  · exact e_OkM_20 i (by omega) h20
  by_cases h30 : i < 40
  · exact e_OkM_30 i (by omega) h30
  by_cases h40 : i < 50
  · exact e_OkM_40 i (by omega) h40
  by_cases h50 : i < 60
  · exact e_OkM_50 i (by omega) h50
  by_cases h60 : i < 70
  · exact e_OkM_60 i (by omega) h60
  by_cases h70 : i < 80
  · exact e_OkM_70 i (by omega) h70
  by_cases h80 : i < 90
  · exact e_OkM_80 i (by omega) h80
  by_cases h90 : i < 100
  · exact e_OkM_90 i (by omega) h90
  by_cases h100 : i < 110
  · exact e_OkM_100 i (by omega) h100
  by_cases h110 : i < 120
  · exact e_OkM_110 i (by omega) h110
  by_cases h120 : i < 130
  · exact e_OkM_120 i (by omega) h120
  by_cases h130 : i < 140
  · exact e_OkM_130 i (by omega) h130
  by_cases h140 : i < 150
  · exact e_OkM_140 i (by omega) h140
  by_cases h150 : i < 160
  · exact e_OkM_150 i (by omega) h150
  by_cases h160 : i < 170
  · exact e_OkM_160 i (by omega) h160
  by_cases h170 : i < 180
  · exact e_OkM_170 i (by omega) h170
  by_cases h180 : i < 190
  · exact e_OkM_180 i (by omega) h180
  by_cases h190 : i < 200
  · exact e_OkM_190 i (by omega) h190
  by_cases h200 : i < 210
  · exact e_OkM_200 i (by omega) h200
  by_cases h210 : i < 220
  · exact e_OkM_210 i (by omega) h210
  by_cases h220 : i < 230
  · exact e_OkM_220 i (by omega) h220
  by_cases h230 : i < 236
  · exact e_OkM_230 i (by omega) h230
  omega
